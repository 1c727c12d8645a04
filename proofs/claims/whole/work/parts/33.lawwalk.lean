def law_c0 (L : Nat) (xs : Nat → Int32) (x1 : Int32) (M5 : pv_M) (rec1 : Int32 → pv_M → Option Int32) : Option Int32 := pv_ldS L xs (x1 + 1) (fun x3 => pv_ldS L xs (x1 + 2) (fun x4 => pv_cal (f_X8_type x3 x4 M5) (fun x5 M6 => pv_ldS L xs (x1 + 1) (fun x6 => pv_ldS L xs (x1 + 2) (fun x7 => pv_cal (f_X9_type x6 x7 M6) (fun x8 M7 => (if x5 = x8 then rec1 (x1 + 7) M7 else some 0)))))))
def law_c1 (L : Nat) (xs : Nat → Int32) (x1 : Int32) (M5 : pv_M) (rec1 : Int32 → pv_M → Option Int32) : Option Int32 := pv_ldS L xs (x1 + 1) (fun x9 => pv_cal (f_X8_wipe x9 M5) (fun x10 M8 => pv_ldS L xs (x1 + 1) (fun x11 => pv_cal (f_X9_wipe x11 M8) (fun x12 M9 => (if x10 = x12 then rec1 (x1 + 7) M9 else some 0)))))
def law_c2 (L : Nat) (xs : Nat → Int32) (x1 : Int32) (M5 : pv_M) (rec1 : Int32 → pv_M → Option Int32) : Option Int32 := pv_ldS L xs (x1 + 1) (fun x13 => pv_cal (f_X8_undo x13 M5) (fun x14 M10 => pv_ldS L xs (x1 + 1) (fun x15 => pv_cal (f_X9_undo x15 M10) (fun x16 M11 => (if x14 = x16 then rec1 (x1 + 7) M11 else some 0)))))
def law_c3 (L : Nat) (xs : Nat → Int32) (x1 : Int32) (M5 : pv_M) (rec1 : Int32 → pv_M → Option Int32) : Option Int32 := pv_ldS L xs (x1 + 1) (fun x17 => pv_cap (f_X8_fault x17 M5) (fun x18 => pv_ldS L xs (x1 + 1) (fun x19 => pv_cal (f_X9_fault x19 M5) (fun x20 M12 => (if x18 = x20 then rec1 (x1 + 7) M12 else some 0)))))
def law_c4 (L : Nat) (xs : Nat → Int32) (x1 : Int32) (M5 : pv_M) (rec1 : Int32 → pv_M → Option Int32) : Option Int32 := pv_ldS L xs (x1 + 1) (fun x21 => pv_ldS L xs (x1 + 2) (fun x22 => pv_ldS L xs (x1 + 3) (fun x23 => pv_cal (f_X8_ticket x21 x22 x23 M5) (fun x24 M13 => pv_ldS L xs (x1 + 1) (fun x25 => pv_ldS L xs (x1 + 2) (fun x26 => pv_ldS L xs (x1 + 3) (fun x27 => pv_cal (f_X9_ticket x25 x26 x27 M13) (fun x28 M14 => (if x24 = x28 then rec1 (x1 + 7) M14 else some 0)))))))))
def law_c5 (L : Nat) (xs : Nat → Int32) (x1 : Int32) (M5 : pv_M) (rec1 : Int32 → pv_M → Option Int32) : Option Int32 := pv_ldS L xs (x1 + 1) (fun x29 => pv_ldS L xs (x1 + 2) (fun x30 => pv_cal (f_X8_voter x29 x30 M5) (fun x31 M15 => pv_ldS L xs (x1 + 1) (fun x32 => pv_ldS L xs (x1 + 2) (fun x33 => pv_cal (f_X9_voter x32 x33 M15) (fun x34 M16 => (if x31 = x34 then rec1 (x1 + 7) M16 else some 0)))))))
def law_c6 (L : Nat) (xs : Nat → Int32) (x1 : Int32) (M5 : pv_M) (rec1 : Int32 → pv_M → Option Int32) : Option Int32 := pv_ldS L xs (x1 + 1) (fun x35 => pv_ldS L xs (x1 + 2) (fun x36 => pv_cal (f_X8_set x35 x36 M5) (fun x37 M17 => pv_ldS L xs (x1 + 1) (fun x38 => pv_ldS L xs (x1 + 2) (fun x39 => pv_cal (f_X9_set x38 x39 M17) (fun x40 M18 => (if x37 = x40 then rec1 (x1 + 7) M18 else some 0)))))))
def law_c7 (L : Nat) (xs : Nat → Int32) (x1 : Int32) (M5 : pv_M) (rec1 : Int32 → pv_M → Option Int32) : Option Int32 := pv_ldS L xs (x1 + 1) (fun x41 => pv_ldS L xs (x1 + 2) (fun x42 => pv_cal (f_X8_purse x41 x42 M5) (fun x43 M19 => pv_ldS L xs (x1 + 1) (fun x44 => pv_ldS L xs (x1 + 2) (fun x45 => pv_cal (f_X9_purse x44 x45 M19) (fun x46 M20 => (if x43 = x46 then rec1 (x1 + 7) M20 else some 0)))))))
def law_c8 (L : Nat) (xs : Nat → Int32) (x1 : Int32) (M5 : pv_M) (rec1 : Int32 → pv_M → Option Int32) : Option Int32 := pv_ldS L xs (x1 + 1) (fun x47 => pv_ldS L xs (x1 + 2) (fun x48 => pv_ldS L xs (x1 + 3) (fun x49 => pv_ldS L xs (x1 + 4) (fun x50 => pv_cal (f_X8_change x47 x48 x49 x50 M5) (fun x51 M21 => pv_ldS L xs (x1 + 1) (fun x52 => pv_ldS L xs (x1 + 2) (fun x53 => pv_ldS L xs (x1 + 3) (fun x54 => pv_ldS L xs (x1 + 4) (fun x55 => pv_cal (f_X9_change x52 x53 x54 x55 M21) (fun x56 M22 => (if x51 = x56 then rec1 (x1 + 7) M22 else some 0)))))))))))
def law_c9 (L : Nat) (xs : Nat → Int32) (x1 : Int32) (M5 : pv_M) (rec1 : Int32 → pv_M → Option Int32) : Option Int32 := pv_ldS L xs (x1 + 1) (fun x57 => pv_cal (f_X8_back x57 M5) (fun x58 M23 => pv_ldS L xs (x1 + 1) (fun x59 => pv_cal (f_X9_back x59 M23) (fun x60 M24 => (if x58 = x60 then rec1 (x1 + 7) M24 else some 0)))))
def law_c10 (L : Nat) (xs : Nat → Int32) (x1 : Int32) (M5 : pv_M) (rec1 : Int32 → pv_M → Option Int32) : Option Int32 := pv_ldS L xs (x1 + 1) (fun x61 => pv_ldS L xs (x1 + 2) (fun x62 => pv_cal (f_X8_elected x61 x62 M5) (fun x63 M25 => pv_ldS L xs (x1 + 1) (fun x64 => pv_ldS L xs (x1 + 2) (fun x65 => pv_cal (f_X9_elected x64 x65 M25) (fun x66 M26 => (if x63 = x66 then rec1 (x1 + 7) M26 else some 0)))))))
def law_c11 (L : Nat) (xs : Nat → Int32) (x1 : Int32) (M5 : pv_M) (rec1 : Int32 → pv_M → Option Int32) : Option Int32 := pv_ldS L xs (x1 + 1) (fun x67 => pv_ldS L xs (x1 + 2) (fun x68 => pv_cal (f_X8_great x67 x68 M5) (fun x69 M27 => pv_ldS L xs (x1 + 1) (fun x70 => pv_ldS L xs (x1 + 2) (fun x71 => pv_cal (f_X9_great x70 x71 M27) (fun x72 M28 => (if x69 = x72 then rec1 (x1 + 7) M28 else some 0)))))))
def law_c12 (L : Nat) (xs : Nat → Int32) (x1 : Int32) (M5 : pv_M) (rec1 : Int32 → pv_M → Option Int32) : Option Int32 := pv_ldS L xs (x1 + 1) (fun x73 => pv_ldS L xs (x1 + 2) (fun x74 => pv_ldS L xs (x1 + 3) (fun x75 => pv_cal (f_X8_votes x73 x74 x75 M5) (fun x76 M29 => pv_ldS L xs (x1 + 1) (fun x77 => pv_ldS L xs (x1 + 2) (fun x78 => pv_ldS L xs (x1 + 3) (fun x79 => pv_cal (f_X9_votes x77 x78 x79 M29) (fun x80 M30 => (if x76 = x80 then rec1 (x1 + 7) M30 else some 0)))))))))
def law_c13 (M5 : pv_M) (rec1 : Int32 → pv_M → Option Int32) (x1 : Int32) : Option Int32 := pv_cal (f_X8_split M5) (fun x81 M31 => pv_cal (f_X9_split M31) (fun x82 M32 => (if x81 = x82 then rec1 (x1 + 7) M32 else some 0)))
def law_c14 (L : Nat) (xs : Nat → Int32) (x1 : Int32) (M5 : pv_M) (rec1 : Int32 → pv_M → Option Int32) : Option Int32 := pv_ldS L xs (x1 + 1) (fun x83 => pv_ldS L xs (x1 + 2) (fun x84 => pv_ldS L xs (x1 + 3) (fun x85 => pv_ldS L xs (x1 + 4) (fun x86 => pv_ldS L xs (x1 + 5) (fun x87 => pv_ldS L xs (x1 + 6) (fun x88 => pv_cal (f_X8_contract x83 x84 x85 x86 x87 x88 M5) (fun x89 M33 => pv_ldS L xs (x1 + 1) (fun x90 => pv_ldS L xs (x1 + 2) (fun x91 => pv_ldS L xs (x1 + 3) (fun x92 => pv_ldS L xs (x1 + 4) (fun x93 => pv_ldS L xs (x1 + 5) (fun x94 => pv_ldS L xs (x1 + 6) (fun x95 => pv_cal (f_X9_contract x90 x91 x92 x93 x94 x95 M33) (fun x96 M34 => (if x89 = x96 then rec1 (x1 + 7) M34 else some 0)))))))))))))))
def law_c15 (L : Nat) (xs : Nat → Int32) (x1 : Int32) (M5 : pv_M) (rec1 : Int32 → pv_M → Option Int32) : Option Int32 := pv_ldS L xs (x1 + 1) (fun x97 => pv_ldS L xs (x1 + 2) (fun x98 => pv_cal (f_X8_money x97 x98 M5) (fun x99 M35 => pv_ldS L xs (x1 + 1) (fun x100 => pv_ldS L xs (x1 + 2) (fun x101 => pv_cal (f_X9_money x100 x101 M35) (fun x102 M36 => (if x99 = x102 then rec1 (x1 + 7) M36 else some 0)))))))
def law_c16 (L : Nat) (xs : Nat → Int32) (x1 : Int32) (M5 : pv_M) (rec1 : Int32 → pv_M → Option Int32) : Option Int32 := pv_ldS L xs (x1 + 1) (fun x103 => pv_cal (f_X8_ruined x103 M5) (fun x104 M37 => pv_ldS L xs (x1 + 1) (fun x105 => pv_cal (f_X9_ruined x105 M37) (fun x106 M38 => (if x104 = x106 then rec1 (x1 + 7) M38 else some 0)))))
def law_c17 (L : Nat) (xs : Nat → Int32) (x1 : Int32) (M5 : pv_M) (rec1 : Int32 → pv_M → Option Int32) : Option Int32 := pv_ldS L xs (x1 + 1) (fun x107 => pv_cal (f_X8_worst x107 M5) (fun x108 M39 => pv_ldS L xs (x1 + 1) (fun x109 => pv_cal (f_X9_worst x109 M39) (fun x110 M40 => (if x108 = x110 then rec1 (x1 + 7) M40 else some 0)))))
def law_c18 (L : Nat) (xs : Nat → Int32) (x1 : Int32) (M5 : pv_M) (rec1 : Int32 → pv_M → Option Int32) : Option Int32 := pv_ldS L xs (x1 + 1) (fun x111 => pv_cal (f_X8_rest x111 M5) (fun x112 M41 => pv_ldS L xs (x1 + 1) (fun x113 => pv_cal (f_X9_rest x113 M41) (fun x114 M42 => (if x112 = x114 then rec1 (x1 + 7) M42 else some 0)))))
def law_c19 (M5 : pv_M) (rec1 : Int32 → pv_M → Option Int32) (x1 : Int32) : Option Int32 := pv_cal (f_X8_rests M5) (fun x115 M43 => pv_cal (f_X9_rests M43) (fun x116 M44 => (if x115 = x116 then rec1 (x1 + 7) M44 else some 0)))
def law_c20 (L : Nat) (xs : Nat → Int32) (x1 : Int32) (M5 : pv_M) (rec1 : Int32 → pv_M → Option Int32) : Option Int32 := pv_ldS L xs (x1 + 1) (fun x117 => pv_ldS L xs (x1 + 2) (fun x118 => pv_cal (f_X8_wins x117 x118 M5) (fun x119 M45 => pv_ldS L xs (x1 + 1) (fun x120 => pv_ldS L xs (x1 + 2) (fun x121 => pv_cal (f_X9_wins x120 x121 M45) (fun x122 M46 => (if x119 = x122 then rec1 (x1 + 7) M46 else some 0)))))))
def law_c21 (L : Nat) (xs : Nat → Int32) (x1 : Int32) (M5 : pv_M) (rec1 : Int32 → pv_M → Option Int32) : Option Int32 := pv_ldS L xs (x1 + 1) (fun x123 => pv_cal (f_X8_hedge x123 M5) (fun x124 M47 => pv_ldS L xs (x1 + 1) (fun x125 => pv_cal (f_X9_hedge x125 M47) (fun x126 M48 => (if x124 = x126 then rec1 (x1 + 7) M48 else some 0)))))
def law_c22 (L : Nat) (xs : Nat → Int32) (x1 : Int32) (M5 : pv_M) (rec1 : Int32 → pv_M → Option Int32) : Option Int32 := pv_ldS L xs (x1 + 1) (fun x127 => pv_ldS L xs (x1 + 2) (fun x128 => pv_ldS L xs (x1 + 3) (fun x129 => pv_cal (f_X8_worth x127 x128 x129 M5) (fun x130 M49 => pv_ldS L xs (x1 + 1) (fun x131 => pv_ldS L xs (x1 + 2) (fun x132 => pv_ldS L xs (x1 + 3) (fun x133 => pv_cal (f_X9_worth x131 x132 x133 M49) (fun x134 M50 => (if (lg_cmp x130 x134) = 0 then rec1 (x1 + 7) M50 else some 0)))))))))
def law_c23 (M5 : pv_M) (rec1 : Int32 → pv_M → Option Int32) (x1 : Int32) : Option Int32 := pv_cal (f_X8_clash M5) (fun x135 M51 => pv_cal (f_X9_clash M51) (fun x136 M52 => (if x135 = x136 then rec1 (x1 + 7) M52 else some 0)))
def law_c24 (M5 : pv_M) (rec1 : Int32 → pv_M → Option Int32) (x1 : Int32) : Option Int32 := pv_cal (f_X8_drop M5) (fun x137 M53 => pv_cal (f_X9_drop M53) (fun x138 M54 => (if x137 = x138 then rec1 (x1 + 7) M54 else some 0)))
def law_c25 (L : Nat) (xs : Nat → Int32) (x1 : Int32) (M5 : pv_M) (rec1 : Int32 → pv_M → Option Int32) : Option Int32 := pv_ldS L xs (x1 + 1) (fun x139 => pv_ldS L xs (x1 + 2) (fun x140 => pv_ldS L xs (x1 + 3) (fun x141 => pv_ldS L xs (x1 + 4) (fun x142 => pv_cal (f_X8_rate x139 x140 x141 x142 M5) (fun x143 M55 => pv_ldS L xs (x1 + 1) (fun x144 => pv_ldS L xs (x1 + 2) (fun x145 => pv_ldS L xs (x1 + 3) (fun x146 => pv_ldS L xs (x1 + 4) (fun x147 => pv_cal (f_X9_rate x144 x145 x146 x147 M55) (fun x148 M56 => (if x143 = x148 then rec1 (x1 + 7) M56 else some 0)))))))))))
def law_c26 (L : Nat) (xs : Nat → Int32) (x1 : Int32) (M5 : pv_M) (rec1 : Int32 → pv_M → Option Int32) : Option Int32 := pv_ldS L xs (x1 + 1) (fun x149 => pv_cal (f_X8_round x149 M5) (fun x150 M57 => pv_ldS L xs (x1 + 1) (fun x151 => pv_cal (f_X9_round x151 M57) (fun x152 M58 => (if x150 = x152 then rec1 (x1 + 7) M58 else some 0)))))
def law_c27 (L : Nat) (xs : Nat → Int32) (x1 : Int32) (M5 : pv_M) (rec1 : Int32 → pv_M → Option Int32) : Option Int32 := pv_ldS L xs (x1 + 1) (fun x153 => pv_ldS L xs (x1 + 2) (fun x154 => pv_ldS L xs (x1 + 3) (fun x155 => pv_cal (f_X8_bill x153 x154 x155 M5) (fun x156 M59 => pv_ldS L xs (x1 + 1) (fun x157 => pv_ldS L xs (x1 + 2) (fun x158 => pv_ldS L xs (x1 + 3) (fun x159 => pv_cal (f_X9_bill x157 x158 x159 M59) (fun x160 M60 => (if x156 = x160 then rec1 (x1 + 7) M60 else some 0)))))))))
def law_c28 (M5 : pv_M) (rec1 : Int32 → pv_M → Option Int32) (x1 : Int32) : Option Int32 := pv_cal (f_X8_years M5) (fun x161 M61 => pv_cal (f_X9_years M61) (fun x162 M62 => (if x161 = x162 then rec1 (x1 + 7) M62 else some 0)))
def law_c29 (L : Nat) (xs : Nat → Int32) (x1 : Int32) (M5 : pv_M) (rec1 : Int32 → pv_M → Option Int32) : Option Int32 := pv_ldS L xs (x1 + 1) (fun x163 => pv_ldS L xs (x1 + 2) (fun x164 => pv_ldS L xs (x1 + 3) (fun x165 => pv_cal (f_X8_sheet x163 x164 x165 M5) (fun x166 M63 => pv_ldS L xs (x1 + 1) (fun x167 => pv_ldS L xs (x1 + 2) (fun x168 => pv_ldS L xs (x1 + 3) (fun x169 => pv_cal (f_X9_sheet x167 x168 x169 M63) (fun x170 M64 => (if x166 = x170 then rec1 (x1 + 7) M64 else some 0)))))))))
def law_c30 (L : Nat) (xs : Nat → Int32) (x1 : Int32) (M5 : pv_M) (rec1 : Int32 → pv_M → Option Int32) : Option Int32 := pv_ldS L xs (x1 + 1) (fun x171 => pv_cal (f_X8_lose x171 M5) (fun x172 M65 => pv_ldS L xs (x1 + 1) (fun x173 => pv_cal (f_X9_lose x173 M65) (fun x174 M66 => (if x172 = x174 then rec1 (x1 + 7) M66 else some 0)))))
def law_c31 (L : Nat) (xs : Nat → Int32) (x1 : Int32) (M5 : pv_M) (rec1 : Int32 → pv_M → Option Int32) : Option Int32 := pv_ldS L xs (x1 + 1) (fun x175 => pv_ldS L xs (x1 + 2) (fun x176 => pv_ldS L xs (x1 + 3) (fun x177 => pv_ldS L xs (x1 + 4) (fun x178 => pv_cal (f_X8_lay x175 x176 x177 x178 M5) (fun x179 M67 => pv_ldS L xs (x1 + 1) (fun x180 => pv_ldS L xs (x1 + 2) (fun x181 => pv_ldS L xs (x1 + 3) (fun x182 => pv_ldS L xs (x1 + 4) (fun x183 => pv_cal (f_X9_lay x180 x181 x182 x183 M67) (fun x184 M68 => (if x179 = x184 then rec1 (x1 + 7) M68 else some 0)))))))))))
def law_c32 (L : Nat) (xs : Nat → Int32) (x1 : Int32) (M5 : pv_M) (rec1 : Int32 → pv_M → Option Int32) : Option Int32 := pv_ldS L xs (x1 + 1) (fun x185 => pv_ldS L xs (x1 + 2) (fun x186 => pv_ldS L xs (x1 + 3) (fun x187 => pv_cal (f_X8_get x185 x186 x187 M5) (fun x188 M69 => pv_ldS L xs (x1 + 1) (fun x189 => pv_ldS L xs (x1 + 2) (fun x190 => pv_ldS L xs (x1 + 3) (fun x191 => pv_cal (f_X9_get x189 x190 x191 M69) (fun x192 M70 => (if x188 = x192 then rec1 (x1 + 7) M70 else some 0)))))))))
def law_c33 (L : Nat) (xs : Nat → Int32) (x1 : Int32) (M5 : pv_M) (rec1 : Int32 → pv_M → Option Int32) : Option Int32 := pv_ldS L xs (x1 + 1) (fun x193 => pv_ldS L xs (x1 + 2) (fun x194 => pv_ldS L xs (x1 + 3) (fun x195 => pv_ldS L xs (x1 + 4) (fun x196 => pv_ldS L xs (x1 + 5) (fun x197 => pv_cal (f_X8_copy x193 x194 x195 x196 x197 M5) (fun x198 M71 => pv_ldS L xs (x1 + 1) (fun x199 => pv_ldS L xs (x1 + 2) (fun x200 => pv_ldS L xs (x1 + 3) (fun x201 => pv_ldS L xs (x1 + 4) (fun x202 => pv_ldS L xs (x1 + 5) (fun x203 => pv_cal (f_X9_copy x199 x200 x201 x202 x203 M71) (fun x204 M72 => (if x198 = x204 then rec1 (x1 + 7) M72 else some 0)))))))))))))
def law_c34 (L : Nat) (xs : Nat → Int32) (x1 : Int32) (M5 : pv_M) (rec1 : Int32 → pv_M → Option Int32) : Option Int32 := pv_ldS L xs (x1 + 1) (fun x205 => pv_cal (f_X8_read x205 M5) (fun x206 M73 => pv_ldS L xs (x1 + 1) (fun x207 => pv_cal (f_X9_read x207 M73) (fun x208 M74 => (if x206 = x208 then rec1 (x1 + 7) M74 else some 0)))))
def law_c35 (L : Nat) (xs : Nat → Int32) (x1 : Int32) (M5 : pv_M) (rec1 : Int32 → pv_M → Option Int32) : Option Int32 := pv_ldS L xs (x1 + 1) (fun x209 => pv_ldS L xs (x1 + 2) (fun x210 => pv_cal (f_X8_write x209 x210 M5) (fun x211 M75 => pv_ldS L xs (x1 + 1) (fun x212 => pv_ldS L xs (x1 + 2) (fun x213 => pv_cal (f_X9_write x212 x213 M75) (fun x214 M76 => (if x211 = x214 then rec1 (x1 + 7) M76 else some 0)))))))
def law_c36 (L : Nat) (xs : Nat → Int32) (x1 : Int32) (M5 : pv_M) (rec1 : Int32 → pv_M → Option Int32) : Option Int32 := pv_ldS L xs (x1 + 1) (fun x215 => pv_cap (f_X8_count x215 M5) (fun x216 => pv_ldS L xs (x1 + 1) (fun x217 => pv_cal (f_X9_count x217 M5) (fun x218 M77 => (if x216 = x218 then rec1 (x1 + 7) M77 else some 0)))))
def law_c37 (M5 : pv_M) (rec1 : Int32 → pv_M → Option Int32) (x1 : Int32) : Option Int32 := pv_cal (f_X8_digest M5) (fun x219 M78 => pv_cal (f_X9_digest M78) (fun x220 M79 => (if (lg_cmp x219 x220) = 0 then rec1 (x1 + 7) M79 else some 0)))
def f_L_law_L18 (L : Nat) (xs : Nat → Int32) (rec1 : Int32 → pv_M → Option Int32) (x1 : Int32) (M5 : pv_M) : Option Int32 := (if ((nI L) - 7) < x1 then some 1 else pv_ldS L xs x1 (fun x2 => pv_sw 38 (x2 &&& 63) (fun i => if i = 0 then law_c0 L xs x1 M5 rec1 else if i = 1 then law_c1 L xs x1 M5 rec1 else if i = 2 then law_c2 L xs x1 M5 rec1 else if i = 3 then law_c3 L xs x1 M5 rec1 else if i = 4 then law_c4 L xs x1 M5 rec1 else if i = 5 then law_c5 L xs x1 M5 rec1 else if i = 6 then law_c6 L xs x1 M5 rec1 else if i = 7 then law_c7 L xs x1 M5 rec1 else if i = 8 then law_c8 L xs x1 M5 rec1 else if i = 9 then law_c9 L xs x1 M5 rec1 else if i = 10 then law_c10 L xs x1 M5 rec1 else if i = 11 then law_c11 L xs x1 M5 rec1 else if i = 12 then law_c12 L xs x1 M5 rec1 else if i = 13 then law_c13 M5 rec1 x1 else if i = 14 then law_c14 L xs x1 M5 rec1 else if i = 15 then law_c15 L xs x1 M5 rec1 else if i = 16 then law_c16 L xs x1 M5 rec1 else if i = 17 then law_c17 L xs x1 M5 rec1 else if i = 18 then law_c18 L xs x1 M5 rec1 else if i = 19 then law_c19 M5 rec1 x1 else if i = 20 then law_c20 L xs x1 M5 rec1 else if i = 21 then law_c21 L xs x1 M5 rec1 else if i = 22 then law_c22 L xs x1 M5 rec1 else if i = 23 then law_c23 M5 rec1 x1 else if i = 24 then law_c24 M5 rec1 x1 else if i = 25 then law_c25 L xs x1 M5 rec1 else if i = 26 then law_c26 L xs x1 M5 rec1 else if i = 27 then law_c27 L xs x1 M5 rec1 else if i = 28 then law_c28 M5 rec1 x1 else if i = 29 then law_c29 L xs x1 M5 rec1 else if i = 30 then law_c30 L xs x1 M5 rec1 else if i = 31 then law_c31 L xs x1 M5 rec1 else if i = 32 then law_c32 L xs x1 M5 rec1 else if i = 33 then law_c33 L xs x1 M5 rec1 else if i = 34 then law_c34 L xs x1 M5 rec1 else if i = 35 then law_c35 L xs x1 M5 rec1 else if i = 36 then law_c36 L xs x1 M5 rec1 else if i = 37 then law_c37 M5 rec1 x1 else rec1 (x1 + 7) M5)))
def f_L_law (L : Nat) (xs : Nat → Int32) (M : pv_M) (rf : pv_F) : Option Int32 := pv_nm (pv_row M.1 0 (fun _ => 0), M.2) (fun M1 => pv_nm (pv_row rf 0 (fun _ => none)) (fun rf1 => pv_cac (fc_X8_0 M1 rf1) (fun M2 rf2 => pv_nm (pv_row M2.1 196 (fun _ => 0), M2.2) (fun M3 => pv_nm (pv_row rf2 196 (fun _ => none)) (fun rf3 => pv_cac (fc_X9_196 M3 rf3) (fun M4 rf4 => pv_ck (pv_isRF rf4) (pv_lp2 (f_L_law_L18 L xs) pv_FU 0 M4)))))))
set_option maxHeartbeats 8000000 in
set_option maxRecDepth 100000 in
theorem k_law {g : pv_X} {κ : pv_K} {b L : Nat} {xs : Nat → Int32} (hR : g.2.2.2.1 = room_1) (ha : g.2.2.2.2.2.2.1 = #[Value.ref b]) (hz : g.2.2.2.2.1.heap.size = κ.1) (hX : va_X b L xs g.2.2.2.2.1 (pv_H0 κ)) (hbz : b < κ.1) (C : pv_Ok g κ 4 code RL ret) (CC : (Cond.arrayOver (.array .int)).before g.2.2.2.2.2.2.1 g.2.2.2.2.1 = true) (M : pv_M) (rf : pv_F) : pv_R g κ 0 rf 4 0 0 (pv_QL g b) 0 [(0, .ref b)] [] M (f_L_law L xs M rf) := by
  have CC : (Cond.arrayOver (.array .int)).before g.2.2.2.2.2.2.1 g.2.2.2.2.1 = true ∧ True := ⟨CC, trivial⟩
  unfold f_L_law
  refine rw_new (N := 0) (c := 8) C dL_law_0 rfl ⟨mw_0, mw_1, mw_2⟩ inlX8 tyX8_ok (by decide +kernel) sh_0 rfl rfl (by rw [hR]; decide) (fun M1 rf1 => ?_)
  refine rw_dup C dL_law_3 rfl ?_
  refine rw_callI (As := []) (k0 := 0) C CC.1 dL_law_4 ci_L_9 (kc_X8_0 g.2.1 κ M1 rf1) (by rw [hR]; decide) (by decide) rfl (Nat.le_of_ble_eq_true rfl) rfl rfl (by rw [hR]; decide) rfl (fun M2 rf2 => ?_)
  refine rw_astore_n (lv' := [(1, .ref (κ.1 + 0)), (0, .ref b)]) C dL_law_7 rfl (by decide) rfl ?_
  refine rw_new (N := 196) (c := 9) C dL_law_8 rfl ⟨mw_3, mw_4, mw_5⟩ inlX9 tyX9_ok (by decide +kernel) sh_196 rfl rfl (by rw [hR]; decide) (fun M3 rf3 => ?_)
  refine rw_dup C dL_law_11 rfl ?_
  refine rw_callI (As := []) (k0 := 196) C CC.1 dL_law_12 ci_L_12 (kc_X9_196 g.2.1 κ M3 rf3) (by rw [hR]; decide) (by decide) rfl (Nat.le_of_ble_eq_true rfl) rfl rfl (by rw [hR]; decide) rfl (fun M4 rf4 => ?_)
  refine rw_astore_n (lv' := [(2, .ref (κ.1 + 196)), (1, .ref (κ.1 + 0)), (0, .ref b)]) C dL_law_15 rfl (by decide) rfl ?_
  refine rw_iconst (c := 0) C dL_law_16 ci_0 ?_
  refine rw_istore_n (lv' := [(3, .int 0), (2, .ref (κ.1 + 196)), (1, .ref (κ.1 + 0)), (0, .ref b)]) C dL_law_17 rfl (by decide) rfl ?_
  refine rw_wide (k := 600000) (n := 7302250) (by decide) (by decide) ?_
  refine rw_toRF ?_
  refine rw_lv (lv' := [(0, .ref b), (1, .ref (κ.1 + 0)), (2, .ref (κ.1 + 196)), (3, .int 0)]) [3, 2, 1, 0] rfl ?_
  refine pv_lp2_ind (fun x1 M5 xx => pv_R g κ pv_T pv_RF 4 600000 7302250 (pv_QL g b) 18 [(0, .ref b), (1, .ref (κ.1 + 0)), (2, .ref (κ.1 + 196)), (3, .int x1)] [] M5 xx) (fun _ _ => rw_none) (fun rec1 hrec1 x1 M5 => ?_) _ _ _
  unfold f_L_law_L18
  refine rw_iload_n C dL_law_18 rfl 3 rfl ?_
  refine rw_aload_n C dL_law_19 rfl 0 rfl ?_
  refine rw_lenS hX hbz C dL_law_20 ?_
  refine rw_bipush (c := 7) C dL_law_21 (by decide) ?_
  refine rw_isub C dL_law_23 ?_
  refine rw_icmp_gt (tgt := 1414) C dL_law_24 (by decide) ?_ ?_
  · refine rw_iconst (c := 1) C dL_law_1414 ci_1 ?_
    exact rw_law1 hR ha hz C dL_law_1415
  · refine rw_aload_n C dL_law_27 rfl 0 rfl ?_
    refine rw_iload_n C dL_law_28 rfl 3 rfl ?_
    refine rw_ldS hX hbz C dL_law_29 (fun x2 => ?_)
    refine rw_bipush (c := 63) C dL_law_30 (by decide) ?_
    refine rw_iand C dL_law_32 ?_
    refine rw_sw (fun i => ([200, 233, 256, 279, 302, 345, 378, 411, 444, 497, 520, 553, 586, 629, 642, 717, 750, 773, 796, 819, 832, 865, 888, 932, 945, 958, 1011, 1034, 1077, 1090, 1133, 1156, 1209, 1252, 1315, 1338, 1371, 1394] : List Nat).getD i 0) 1408 C dL_law_33 rfl (by decide) ⟨rfl, by decide⟩ (by decide) (fun i hi => ?_) ?_
    · rcases (show i = 0 ∨ i = 1 ∨ i = 2 ∨ i = 3 ∨ i = 4 ∨ i = 5 ∨ i = 6 ∨ i = 7 ∨ i = 8 ∨ i = 9 ∨ i = 10 ∨ i = 11 ∨ i = 12 ∨ i = 13 ∨ i = 14 ∨ i = 15 ∨ i = 16 ∨ i = 17 ∨ i = 18 ∨ i = 19 ∨ i = 20 ∨ i = 21 ∨ i = 22 ∨ i = 23 ∨ i = 24 ∨ i = 25 ∨ i = 26 ∨ i = 27 ∨ i = 28 ∨ i = 29 ∨ i = 30 ∨ i = 31 ∨ i = 32 ∨ i = 33 ∨ i = 34 ∨ i = 35 ∨ i = 36 ∨ i = 37 by omega) with rfl | rfl | rfl | rfl | rfl | rfl | rfl | rfl | rfl | rfl | rfl | rfl | rfl | rfl | rfl | rfl | rfl | rfl | rfl | rfl | rfl | rfl | rfl | rfl | rfl | rfl | rfl | rfl | rfl | rfl | rfl | rfl | rfl | rfl | rfl | rfl | rfl | rfl
      · show pv_R g κ pv_T pv_RF 4 600000 7302250 (pv_QL g b) 200 [(0, .ref b), (1, .ref (κ.1 + 0)), (2, .ref (κ.1 + 196)), (3, .int x1)] [] M5 (law_c0 L xs x1 M5 rec1)
        unfold law_c0
        refine rw_aload_n C dL_law_200 rfl 1 rfl ?_
        refine rw_aload_n C dL_law_201 rfl 0 rfl ?_
        refine rw_iload_n C dL_law_202 rfl 3 rfl ?_
        refine rw_iconst (c := 1) C dL_law_203 ci_1 ?_
        refine rw_iadd C dL_law_204 ?_
        refine rw_ldS hX hbz C dL_law_205 (fun x3 => ?_)
        refine rw_aload_n C dL_law_206 rfl 0 rfl ?_
        refine rw_iload_n C dL_law_207 rfl 3 rfl ?_
        refine rw_iconst (c := 2) C dL_law_208 ci_2 ?_
        refine rw_iadd C dL_law_209 ?_
        refine rw_ldS hX hbz C dL_law_210 (fun x4 => ?_)
        refine rw_callLi (As := [.int x3, .int x4]) (k0 := 0) C (by rw [hR]; decide) dL_law_211 cv_L_13 (k_X8_type g.2.1 κ x3 x4 M5) (by decide) (by decide) sh_0 rfl rfl (Nat.le_of_ble_eq_true rfl) rfl (fun x5 M6 => ?_)
        refine rw_aload_n C dL_law_214 rfl 2 rfl ?_
        refine rw_aload_n C dL_law_215 rfl 0 rfl ?_
        refine rw_iload_n C dL_law_216 rfl 3 rfl ?_
        refine rw_iconst (c := 1) C dL_law_217 ci_1 ?_
        refine rw_iadd C dL_law_218 ?_
        refine rw_ldS hX hbz C dL_law_219 (fun x6 => ?_)
        refine rw_aload_n C dL_law_220 rfl 0 rfl ?_
        refine rw_iload_n C dL_law_221 rfl 3 rfl ?_
        refine rw_iconst (c := 2) C dL_law_222 ci_2 ?_
        refine rw_iadd C dL_law_223 ?_
        refine rw_ldS hX hbz C dL_law_224 (fun x7 => ?_)
        refine rw_callLi (As := [.int x6, .int x7]) (k0 := 196) C (by rw [hR]; decide) dL_law_225 cv_L_17 (k_X9_type g.2.1 κ x6 x7 M6) (by decide) (by decide) sh_196 rfl rfl (Nat.le_of_ble_eq_true rfl) rfl (fun x8 M7 => ?_)
        refine rw_icmp_eq (tgt := 1408) C dL_law_228 (by decide) ?_ ?_
        · refine rw_iinc (c := 7) (lv' := [(3, .int (x1 + 7)), (0, .ref b), (1, .ref (κ.1 + 0)), (2, .ref (κ.1 + 196))]) C dL_law_1408 3 rfl (by decide) (by decide) rfl ?_
          refine rw_goto (tgt := 18) C dL_law_1411 (by decide) ?_
          exact rw_lv [1, 2, 3, 0] rfl (hrec1 (x1 + 7) M7)
        · refine rw_iconst (c := 0) C dL_law_231 ci_0 ?_
          exact rw_law0
      · show pv_R g κ pv_T pv_RF 4 600000 7302250 (pv_QL g b) 233 [(0, .ref b), (1, .ref (κ.1 + 0)), (2, .ref (κ.1 + 196)), (3, .int x1)] [] M5 (law_c1 L xs x1 M5 rec1)
        unfold law_c1
        refine rw_aload_n C dL_law_233 rfl 1 rfl ?_
        refine rw_aload_n C dL_law_234 rfl 0 rfl ?_
        refine rw_iload_n C dL_law_235 rfl 3 rfl ?_
        refine rw_iconst (c := 1) C dL_law_236 ci_1 ?_
        refine rw_iadd C dL_law_237 ?_
        refine rw_ldS hX hbz C dL_law_238 (fun x9 => ?_)
        refine rw_callLi (As := [.int x9]) (k0 := 0) C (by rw [hR]; decide) dL_law_239 cv_L_18 (k_X8_wipe g.2.1 κ x9 M5) (by decide) (by decide) sh_0 rfl rfl (Nat.le_of_ble_eq_true rfl) rfl (fun x10 M8 => ?_)
        refine rw_aload_n C dL_law_242 rfl 2 rfl ?_
        refine rw_aload_n C dL_law_243 rfl 0 rfl ?_
        refine rw_iload_n C dL_law_244 rfl 3 rfl ?_
        refine rw_iconst (c := 1) C dL_law_245 ci_1 ?_
        refine rw_iadd C dL_law_246 ?_
        refine rw_ldS hX hbz C dL_law_247 (fun x11 => ?_)
        refine rw_callLi (As := [.int x11]) (k0 := 196) C (by rw [hR]; decide) dL_law_248 cv_L_22 (k_X9_wipe g.2.1 κ x11 M8) (by decide) (by decide) sh_196 rfl rfl (Nat.le_of_ble_eq_true rfl) rfl (fun x12 M9 => ?_)
        refine rw_icmp_eq (tgt := 1408) C dL_law_251 (by decide) ?_ ?_
        · refine rw_iinc (c := 7) (lv' := [(3, .int (x1 + 7)), (0, .ref b), (1, .ref (κ.1 + 0)), (2, .ref (κ.1 + 196))]) C dL_law_1408 3 rfl (by decide) (by decide) rfl ?_
          refine rw_goto (tgt := 18) C dL_law_1411 (by decide) ?_
          exact rw_lv [1, 2, 3, 0] rfl (hrec1 (x1 + 7) M9)
        · refine rw_iconst (c := 0) C dL_law_254 ci_0 ?_
          exact rw_law0
      · show pv_R g κ pv_T pv_RF 4 600000 7302250 (pv_QL g b) 256 [(0, .ref b), (1, .ref (κ.1 + 0)), (2, .ref (κ.1 + 196)), (3, .int x1)] [] M5 (law_c2 L xs x1 M5 rec1)
        unfold law_c2
        refine rw_aload_n C dL_law_256 rfl 1 rfl ?_
        refine rw_aload_n C dL_law_257 rfl 0 rfl ?_
        refine rw_iload_n C dL_law_258 rfl 3 rfl ?_
        refine rw_iconst (c := 1) C dL_law_259 ci_1 ?_
        refine rw_iadd C dL_law_260 ?_
        refine rw_ldS hX hbz C dL_law_261 (fun x13 => ?_)
        refine rw_callLi (As := [.int x13]) (k0 := 0) C (by rw [hR]; decide) dL_law_262 cv_L_23 (k_X8_undo g.2.1 κ x13 M5) (by decide) (by decide) sh_0 rfl rfl (Nat.le_of_ble_eq_true rfl) rfl (fun x14 M10 => ?_)
        refine rw_aload_n C dL_law_265 rfl 2 rfl ?_
        refine rw_aload_n C dL_law_266 rfl 0 rfl ?_
        refine rw_iload_n C dL_law_267 rfl 3 rfl ?_
        refine rw_iconst (c := 1) C dL_law_268 ci_1 ?_
        refine rw_iadd C dL_law_269 ?_
        refine rw_ldS hX hbz C dL_law_270 (fun x15 => ?_)
        refine rw_callLi (As := [.int x15]) (k0 := 196) C (by rw [hR]; decide) dL_law_271 cv_L_26 (k_X9_undo g.2.1 κ x15 M10) (by decide) (by decide) sh_196 rfl rfl (Nat.le_of_ble_eq_true rfl) rfl (fun x16 M11 => ?_)
        refine rw_icmp_eq (tgt := 1408) C dL_law_274 (by decide) ?_ ?_
        · refine rw_iinc (c := 7) (lv' := [(3, .int (x1 + 7)), (0, .ref b), (1, .ref (κ.1 + 0)), (2, .ref (κ.1 + 196))]) C dL_law_1408 3 rfl (by decide) (by decide) rfl ?_
          refine rw_goto (tgt := 18) C dL_law_1411 (by decide) ?_
          exact rw_lv [1, 2, 3, 0] rfl (hrec1 (x1 + 7) M11)
        · refine rw_iconst (c := 0) C dL_law_277 ci_0 ?_
          exact rw_law0
      · show pv_R g κ pv_T pv_RF 4 600000 7302250 (pv_QL g b) 279 [(0, .ref b), (1, .ref (κ.1 + 0)), (2, .ref (κ.1 + 196)), (3, .int x1)] [] M5 (law_c3 L xs x1 M5 rec1)
        unfold law_c3
        refine rw_aload_n C dL_law_279 rfl 1 rfl ?_
        refine rw_aload_n C dL_law_280 rfl 0 rfl ?_
        refine rw_iload_n C dL_law_281 rfl 3 rfl ?_
        refine rw_iconst (c := 1) C dL_law_282 ci_1 ?_
        refine rw_iadd C dL_law_283 ?_
        refine rw_ldS hX hbz C dL_law_284 (fun x17 => ?_)
        refine rw_callLPi (As := [.int x17]) (k0 := 0) C (by rw [hR]; decide) dL_law_285 cv_L_27 (k_X8_fault g.2.1 κ x17 M5) (by decide) (by decide) sh_0 rfl rfl (Nat.le_of_ble_eq_true rfl) rfl (fun x18 => ?_)
        refine rw_aload_n C dL_law_288 rfl 2 rfl ?_
        refine rw_aload_n C dL_law_289 rfl 0 rfl ?_
        refine rw_iload_n C dL_law_290 rfl 3 rfl ?_
        refine rw_iconst (c := 1) C dL_law_291 ci_1 ?_
        refine rw_iadd C dL_law_292 ?_
        refine rw_ldS hX hbz C dL_law_293 (fun x19 => ?_)
        refine rw_callLi (As := [.int x19]) (k0 := 196) C (by rw [hR]; decide) dL_law_294 cv_L_30 (k_X9_fault g.2.1 κ x19 M5) (by decide) (by decide) sh_196 rfl rfl (Nat.le_of_ble_eq_true rfl) rfl (fun x20 M12 => ?_)
        refine rw_icmp_eq (tgt := 1408) C dL_law_297 (by decide) ?_ ?_
        · refine rw_iinc (c := 7) (lv' := [(3, .int (x1 + 7)), (0, .ref b), (1, .ref (κ.1 + 0)), (2, .ref (κ.1 + 196))]) C dL_law_1408 3 rfl (by decide) (by decide) rfl ?_
          refine rw_goto (tgt := 18) C dL_law_1411 (by decide) ?_
          exact rw_lv [1, 2, 3, 0] rfl (hrec1 (x1 + 7) M12)
        · refine rw_iconst (c := 0) C dL_law_300 ci_0 ?_
          exact rw_law0
      · show pv_R g κ pv_T pv_RF 4 600000 7302250 (pv_QL g b) 302 [(0, .ref b), (1, .ref (κ.1 + 0)), (2, .ref (κ.1 + 196)), (3, .int x1)] [] M5 (law_c4 L xs x1 M5 rec1)
        unfold law_c4
        refine rw_aload_n C dL_law_302 rfl 1 rfl ?_
        refine rw_aload_n C dL_law_303 rfl 0 rfl ?_
        refine rw_iload_n C dL_law_304 rfl 3 rfl ?_
        refine rw_iconst (c := 1) C dL_law_305 ci_1 ?_
        refine rw_iadd C dL_law_306 ?_
        refine rw_ldS hX hbz C dL_law_307 (fun x21 => ?_)
        refine rw_aload_n C dL_law_308 rfl 0 rfl ?_
        refine rw_iload_n C dL_law_309 rfl 3 rfl ?_
        refine rw_iconst (c := 2) C dL_law_310 ci_2 ?_
        refine rw_iadd C dL_law_311 ?_
        refine rw_ldS hX hbz C dL_law_312 (fun x22 => ?_)
        refine rw_aload_n C dL_law_313 rfl 0 rfl ?_
        refine rw_iload_n C dL_law_314 rfl 3 rfl ?_
        refine rw_iconst (c := 3) C dL_law_315 ci_3 ?_
        refine rw_iadd C dL_law_316 ?_
        refine rw_ldS hX hbz C dL_law_317 (fun x23 => ?_)
        refine rw_callLi (As := [.int x21, .int x22, .int x23]) (k0 := 0) C (by rw [hR]; decide) dL_law_318 cv_L_31 (k_X8_ticket g.2.1 κ x21 x22 x23 M5) (by decide) (by decide) sh_0 rfl rfl (Nat.le_of_ble_eq_true rfl) rfl (fun x24 M13 => ?_)
        refine rw_aload_n C dL_law_321 rfl 2 rfl ?_
        refine rw_aload_n C dL_law_322 rfl 0 rfl ?_
        refine rw_iload_n C dL_law_323 rfl 3 rfl ?_
        refine rw_iconst (c := 1) C dL_law_324 ci_1 ?_
        refine rw_iadd C dL_law_325 ?_
        refine rw_ldS hX hbz C dL_law_326 (fun x25 => ?_)
        refine rw_aload_n C dL_law_327 rfl 0 rfl ?_
        refine rw_iload_n C dL_law_328 rfl 3 rfl ?_
        refine rw_iconst (c := 2) C dL_law_329 ci_2 ?_
        refine rw_iadd C dL_law_330 ?_
        refine rw_ldS hX hbz C dL_law_331 (fun x26 => ?_)
        refine rw_aload_n C dL_law_332 rfl 0 rfl ?_
        refine rw_iload_n C dL_law_333 rfl 3 rfl ?_
        refine rw_iconst (c := 3) C dL_law_334 ci_3 ?_
        refine rw_iadd C dL_law_335 ?_
        refine rw_ldS hX hbz C dL_law_336 (fun x27 => ?_)
        refine rw_callLi (As := [.int x25, .int x26, .int x27]) (k0 := 196) C (by rw [hR]; decide) dL_law_337 cv_L_35 (k_X9_ticket g.2.1 κ x25 x26 x27 M13) (by decide) (by decide) sh_196 rfl rfl (Nat.le_of_ble_eq_true rfl) rfl (fun x28 M14 => ?_)
        refine rw_icmp_eq (tgt := 1408) C dL_law_340 (by decide) ?_ ?_
        · refine rw_iinc (c := 7) (lv' := [(3, .int (x1 + 7)), (0, .ref b), (1, .ref (κ.1 + 0)), (2, .ref (κ.1 + 196))]) C dL_law_1408 3 rfl (by decide) (by decide) rfl ?_
          refine rw_goto (tgt := 18) C dL_law_1411 (by decide) ?_
          exact rw_lv [1, 2, 3, 0] rfl (hrec1 (x1 + 7) M14)
        · refine rw_iconst (c := 0) C dL_law_343 ci_0 ?_
          exact rw_law0
      · show pv_R g κ pv_T pv_RF 4 600000 7302250 (pv_QL g b) 345 [(0, .ref b), (1, .ref (κ.1 + 0)), (2, .ref (κ.1 + 196)), (3, .int x1)] [] M5 (law_c5 L xs x1 M5 rec1)
        unfold law_c5
        refine rw_aload_n C dL_law_345 rfl 1 rfl ?_
        refine rw_aload_n C dL_law_346 rfl 0 rfl ?_
        refine rw_iload_n C dL_law_347 rfl 3 rfl ?_
        refine rw_iconst (c := 1) C dL_law_348 ci_1 ?_
        refine rw_iadd C dL_law_349 ?_
        refine rw_ldS hX hbz C dL_law_350 (fun x29 => ?_)
        refine rw_aload_n C dL_law_351 rfl 0 rfl ?_
        refine rw_iload_n C dL_law_352 rfl 3 rfl ?_
        refine rw_iconst (c := 2) C dL_law_353 ci_2 ?_
        refine rw_iadd C dL_law_354 ?_
        refine rw_ldS hX hbz C dL_law_355 (fun x30 => ?_)
        refine rw_callLi (As := [.int x29, .int x30]) (k0 := 0) C (by rw [hR]; decide) dL_law_356 cv_L_36 (k_X8_voter g.2.1 κ x29 x30 M5) (by decide) (by decide) sh_0 rfl rfl (Nat.le_of_ble_eq_true rfl) rfl (fun x31 M15 => ?_)
        refine rw_aload_n C dL_law_359 rfl 2 rfl ?_
        refine rw_aload_n C dL_law_360 rfl 0 rfl ?_
        refine rw_iload_n C dL_law_361 rfl 3 rfl ?_
        refine rw_iconst (c := 1) C dL_law_362 ci_1 ?_
        refine rw_iadd C dL_law_363 ?_
        refine rw_ldS hX hbz C dL_law_364 (fun x32 => ?_)
        refine rw_aload_n C dL_law_365 rfl 0 rfl ?_
        refine rw_iload_n C dL_law_366 rfl 3 rfl ?_
        refine rw_iconst (c := 2) C dL_law_367 ci_2 ?_
        refine rw_iadd C dL_law_368 ?_
        refine rw_ldS hX hbz C dL_law_369 (fun x33 => ?_)
        refine rw_callLi (As := [.int x32, .int x33]) (k0 := 196) C (by rw [hR]; decide) dL_law_370 cv_L_39 (k_X9_voter g.2.1 κ x32 x33 M15) (by decide) (by decide) sh_196 rfl rfl (Nat.le_of_ble_eq_true rfl) rfl (fun x34 M16 => ?_)
        refine rw_icmp_eq (tgt := 1408) C dL_law_373 (by decide) ?_ ?_
        · refine rw_iinc (c := 7) (lv' := [(3, .int (x1 + 7)), (0, .ref b), (1, .ref (κ.1 + 0)), (2, .ref (κ.1 + 196))]) C dL_law_1408 3 rfl (by decide) (by decide) rfl ?_
          refine rw_goto (tgt := 18) C dL_law_1411 (by decide) ?_
          exact rw_lv [1, 2, 3, 0] rfl (hrec1 (x1 + 7) M16)
        · refine rw_iconst (c := 0) C dL_law_376 ci_0 ?_
          exact rw_law0
      · show pv_R g κ pv_T pv_RF 4 600000 7302250 (pv_QL g b) 378 [(0, .ref b), (1, .ref (κ.1 + 0)), (2, .ref (κ.1 + 196)), (3, .int x1)] [] M5 (law_c6 L xs x1 M5 rec1)
        unfold law_c6
        refine rw_aload_n C dL_law_378 rfl 1 rfl ?_
        refine rw_aload_n C dL_law_379 rfl 0 rfl ?_
        refine rw_iload_n C dL_law_380 rfl 3 rfl ?_
        refine rw_iconst (c := 1) C dL_law_381 ci_1 ?_
        refine rw_iadd C dL_law_382 ?_
        refine rw_ldS hX hbz C dL_law_383 (fun x35 => ?_)
        refine rw_aload_n C dL_law_384 rfl 0 rfl ?_
        refine rw_iload_n C dL_law_385 rfl 3 rfl ?_
        refine rw_iconst (c := 2) C dL_law_386 ci_2 ?_
        refine rw_iadd C dL_law_387 ?_
        refine rw_ldS hX hbz C dL_law_388 (fun x36 => ?_)
        refine rw_callLi (As := [.int x35, .int x36]) (k0 := 0) C (by rw [hR]; decide) dL_law_389 cv_L_40 (k_X8_set g.2.1 κ x35 x36 M5) (by decide) (by decide) sh_0 rfl rfl (Nat.le_of_ble_eq_true rfl) rfl (fun x37 M17 => ?_)
        refine rw_aload_n C dL_law_392 rfl 2 rfl ?_
        refine rw_aload_n C dL_law_393 rfl 0 rfl ?_
        refine rw_iload_n C dL_law_394 rfl 3 rfl ?_
        refine rw_iconst (c := 1) C dL_law_395 ci_1 ?_
        refine rw_iadd C dL_law_396 ?_
        refine rw_ldS hX hbz C dL_law_397 (fun x38 => ?_)
        refine rw_aload_n C dL_law_398 rfl 0 rfl ?_
        refine rw_iload_n C dL_law_399 rfl 3 rfl ?_
        refine rw_iconst (c := 2) C dL_law_400 ci_2 ?_
        refine rw_iadd C dL_law_401 ?_
        refine rw_ldS hX hbz C dL_law_402 (fun x39 => ?_)
        refine rw_callLi (As := [.int x38, .int x39]) (k0 := 196) C (by rw [hR]; decide) dL_law_403 cv_L_43 (k_X9_set g.2.1 κ x38 x39 M17) (by decide) (by decide) sh_196 rfl rfl (Nat.le_of_ble_eq_true rfl) rfl (fun x40 M18 => ?_)
        refine rw_icmp_eq (tgt := 1408) C dL_law_406 (by decide) ?_ ?_
        · refine rw_iinc (c := 7) (lv' := [(3, .int (x1 + 7)), (0, .ref b), (1, .ref (κ.1 + 0)), (2, .ref (κ.1 + 196))]) C dL_law_1408 3 rfl (by decide) (by decide) rfl ?_
          refine rw_goto (tgt := 18) C dL_law_1411 (by decide) ?_
          exact rw_lv [1, 2, 3, 0] rfl (hrec1 (x1 + 7) M18)
        · refine rw_iconst (c := 0) C dL_law_409 ci_0 ?_
          exact rw_law0
      · show pv_R g κ pv_T pv_RF 4 600000 7302250 (pv_QL g b) 411 [(0, .ref b), (1, .ref (κ.1 + 0)), (2, .ref (κ.1 + 196)), (3, .int x1)] [] M5 (law_c7 L xs x1 M5 rec1)
        unfold law_c7
        refine rw_aload_n C dL_law_411 rfl 1 rfl ?_
        refine rw_aload_n C dL_law_412 rfl 0 rfl ?_
        refine rw_iload_n C dL_law_413 rfl 3 rfl ?_
        refine rw_iconst (c := 1) C dL_law_414 ci_1 ?_
        refine rw_iadd C dL_law_415 ?_
        refine rw_ldS hX hbz C dL_law_416 (fun x41 => ?_)
        refine rw_aload_n C dL_law_417 rfl 0 rfl ?_
        refine rw_iload_n C dL_law_418 rfl 3 rfl ?_
        refine rw_iconst (c := 2) C dL_law_419 ci_2 ?_
        refine rw_iadd C dL_law_420 ?_
        refine rw_ldS hX hbz C dL_law_421 (fun x42 => ?_)
        refine rw_callLi (As := [.int x41, .int x42]) (k0 := 0) C (by rw [hR]; decide) dL_law_422 cv_L_44 (k_X8_purse g.2.1 κ x41 x42 M5) (by decide) (by decide) sh_0 rfl rfl (Nat.le_of_ble_eq_true rfl) rfl (fun x43 M19 => ?_)
        refine rw_aload_n C dL_law_425 rfl 2 rfl ?_
        refine rw_aload_n C dL_law_426 rfl 0 rfl ?_
        refine rw_iload_n C dL_law_427 rfl 3 rfl ?_
        refine rw_iconst (c := 1) C dL_law_428 ci_1 ?_
        refine rw_iadd C dL_law_429 ?_
        refine rw_ldS hX hbz C dL_law_430 (fun x44 => ?_)
        refine rw_aload_n C dL_law_431 rfl 0 rfl ?_
        refine rw_iload_n C dL_law_432 rfl 3 rfl ?_
        refine rw_iconst (c := 2) C dL_law_433 ci_2 ?_
        refine rw_iadd C dL_law_434 ?_
        refine rw_ldS hX hbz C dL_law_435 (fun x45 => ?_)
        refine rw_callLi (As := [.int x44, .int x45]) (k0 := 196) C (by rw [hR]; decide) dL_law_436 cv_L_47 (k_X9_purse g.2.1 κ x44 x45 M19) (by decide) (by decide) sh_196 rfl rfl (Nat.le_of_ble_eq_true rfl) rfl (fun x46 M20 => ?_)
        refine rw_icmp_eq (tgt := 1408) C dL_law_439 (by decide) ?_ ?_
        · refine rw_iinc (c := 7) (lv' := [(3, .int (x1 + 7)), (0, .ref b), (1, .ref (κ.1 + 0)), (2, .ref (κ.1 + 196))]) C dL_law_1408 3 rfl (by decide) (by decide) rfl ?_
          refine rw_goto (tgt := 18) C dL_law_1411 (by decide) ?_
          exact rw_lv [1, 2, 3, 0] rfl (hrec1 (x1 + 7) M20)
        · refine rw_iconst (c := 0) C dL_law_442 ci_0 ?_
          exact rw_law0
      · show pv_R g κ pv_T pv_RF 4 600000 7302250 (pv_QL g b) 444 [(0, .ref b), (1, .ref (κ.1 + 0)), (2, .ref (κ.1 + 196)), (3, .int x1)] [] M5 (law_c8 L xs x1 M5 rec1)
        unfold law_c8
        refine rw_aload_n C dL_law_444 rfl 1 rfl ?_
        refine rw_aload_n C dL_law_445 rfl 0 rfl ?_
        refine rw_iload_n C dL_law_446 rfl 3 rfl ?_
        refine rw_iconst (c := 1) C dL_law_447 ci_1 ?_
        refine rw_iadd C dL_law_448 ?_
        refine rw_ldS hX hbz C dL_law_449 (fun x47 => ?_)
        refine rw_aload_n C dL_law_450 rfl 0 rfl ?_
        refine rw_iload_n C dL_law_451 rfl 3 rfl ?_
        refine rw_iconst (c := 2) C dL_law_452 ci_2 ?_
        refine rw_iadd C dL_law_453 ?_
        refine rw_ldS hX hbz C dL_law_454 (fun x48 => ?_)
        refine rw_aload_n C dL_law_455 rfl 0 rfl ?_
        refine rw_iload_n C dL_law_456 rfl 3 rfl ?_
        refine rw_iconst (c := 3) C dL_law_457 ci_3 ?_
        refine rw_iadd C dL_law_458 ?_
        refine rw_ldS hX hbz C dL_law_459 (fun x49 => ?_)
        refine rw_aload_n C dL_law_460 rfl 0 rfl ?_
        refine rw_iload_n C dL_law_461 rfl 3 rfl ?_
        refine rw_iconst (c := 4) C dL_law_462 ci_4 ?_
        refine rw_iadd C dL_law_463 ?_
        refine rw_ldS hX hbz C dL_law_464 (fun x50 => ?_)
        refine rw_callLi (As := [.int x47, .int x48, .int x49, .int x50]) (k0 := 0) C (by rw [hR]; decide) dL_law_465 cv_L_48 (k_X8_change g.2.1 κ x47 x48 x49 x50 M5) (by decide) (by decide) sh_0 rfl rfl (Nat.le_of_ble_eq_true rfl) rfl (fun x51 M21 => ?_)
        refine rw_aload_n C dL_law_468 rfl 2 rfl ?_
        refine rw_aload_n C dL_law_469 rfl 0 rfl ?_
        refine rw_iload_n C dL_law_470 rfl 3 rfl ?_
        refine rw_iconst (c := 1) C dL_law_471 ci_1 ?_
        refine rw_iadd C dL_law_472 ?_
        refine rw_ldS hX hbz C dL_law_473 (fun x52 => ?_)
        refine rw_aload_n C dL_law_474 rfl 0 rfl ?_
        refine rw_iload_n C dL_law_475 rfl 3 rfl ?_
        refine rw_iconst (c := 2) C dL_law_476 ci_2 ?_
        refine rw_iadd C dL_law_477 ?_
        refine rw_ldS hX hbz C dL_law_478 (fun x53 => ?_)
        refine rw_aload_n C dL_law_479 rfl 0 rfl ?_
        refine rw_iload_n C dL_law_480 rfl 3 rfl ?_
        refine rw_iconst (c := 3) C dL_law_481 ci_3 ?_
        refine rw_iadd C dL_law_482 ?_
        refine rw_ldS hX hbz C dL_law_483 (fun x54 => ?_)
        refine rw_aload_n C dL_law_484 rfl 0 rfl ?_
        refine rw_iload_n C dL_law_485 rfl 3 rfl ?_
        refine rw_iconst (c := 4) C dL_law_486 ci_4 ?_
        refine rw_iadd C dL_law_487 ?_
        refine rw_ldS hX hbz C dL_law_488 (fun x55 => ?_)
        refine rw_callLi (As := [.int x52, .int x53, .int x54, .int x55]) (k0 := 196) C (by rw [hR]; decide) dL_law_489 cv_L_52 (k_X9_change g.2.1 κ x52 x53 x54 x55 M21) (by decide) (by decide) sh_196 rfl rfl (Nat.le_of_ble_eq_true rfl) rfl (fun x56 M22 => ?_)
        refine rw_icmp_eq (tgt := 1408) C dL_law_492 (by decide) ?_ ?_
        · refine rw_iinc (c := 7) (lv' := [(3, .int (x1 + 7)), (0, .ref b), (1, .ref (κ.1 + 0)), (2, .ref (κ.1 + 196))]) C dL_law_1408 3 rfl (by decide) (by decide) rfl ?_
          refine rw_goto (tgt := 18) C dL_law_1411 (by decide) ?_
          exact rw_lv [1, 2, 3, 0] rfl (hrec1 (x1 + 7) M22)
        · refine rw_iconst (c := 0) C dL_law_495 ci_0 ?_
          exact rw_law0
      · show pv_R g κ pv_T pv_RF 4 600000 7302250 (pv_QL g b) 497 [(0, .ref b), (1, .ref (κ.1 + 0)), (2, .ref (κ.1 + 196)), (3, .int x1)] [] M5 (law_c9 L xs x1 M5 rec1)
        unfold law_c9
        refine rw_aload_n C dL_law_497 rfl 1 rfl ?_
        refine rw_aload_n C dL_law_498 rfl 0 rfl ?_
        refine rw_iload_n C dL_law_499 rfl 3 rfl ?_
        refine rw_iconst (c := 1) C dL_law_500 ci_1 ?_
        refine rw_iadd C dL_law_501 ?_
        refine rw_ldS hX hbz C dL_law_502 (fun x57 => ?_)
        refine rw_callLi (As := [.int x57]) (k0 := 0) C (by rw [hR]; decide) dL_law_503 cv_L_53 (k_X8_back g.2.1 κ x57 M5) (by decide) (by decide) sh_0 rfl rfl (Nat.le_of_ble_eq_true rfl) rfl (fun x58 M23 => ?_)
        refine rw_aload_n C dL_law_506 rfl 2 rfl ?_
        refine rw_aload_n C dL_law_507 rfl 0 rfl ?_
        refine rw_iload_n C dL_law_508 rfl 3 rfl ?_
        refine rw_iconst (c := 1) C dL_law_509 ci_1 ?_
        refine rw_iadd C dL_law_510 ?_
        refine rw_ldS hX hbz C dL_law_511 (fun x59 => ?_)
        refine rw_callLi (As := [.int x59]) (k0 := 196) C (by rw [hR]; decide) dL_law_512 cv_L_56 (k_X9_back g.2.1 κ x59 M23) (by decide) (by decide) sh_196 rfl rfl (Nat.le_of_ble_eq_true rfl) rfl (fun x60 M24 => ?_)
        refine rw_icmp_eq (tgt := 1408) C dL_law_515 (by decide) ?_ ?_
        · refine rw_iinc (c := 7) (lv' := [(3, .int (x1 + 7)), (0, .ref b), (1, .ref (κ.1 + 0)), (2, .ref (κ.1 + 196))]) C dL_law_1408 3 rfl (by decide) (by decide) rfl ?_
          refine rw_goto (tgt := 18) C dL_law_1411 (by decide) ?_
          exact rw_lv [1, 2, 3, 0] rfl (hrec1 (x1 + 7) M24)
        · refine rw_iconst (c := 0) C dL_law_518 ci_0 ?_
          exact rw_law0
      · show pv_R g κ pv_T pv_RF 4 600000 7302250 (pv_QL g b) 520 [(0, .ref b), (1, .ref (κ.1 + 0)), (2, .ref (κ.1 + 196)), (3, .int x1)] [] M5 (law_c10 L xs x1 M5 rec1)
        unfold law_c10
        refine rw_aload_n C dL_law_520 rfl 1 rfl ?_
        refine rw_aload_n C dL_law_521 rfl 0 rfl ?_
        refine rw_iload_n C dL_law_522 rfl 3 rfl ?_
        refine rw_iconst (c := 1) C dL_law_523 ci_1 ?_
        refine rw_iadd C dL_law_524 ?_
        refine rw_ldS hX hbz C dL_law_525 (fun x61 => ?_)
        refine rw_aload_n C dL_law_526 rfl 0 rfl ?_
        refine rw_iload_n C dL_law_527 rfl 3 rfl ?_
        refine rw_iconst (c := 2) C dL_law_528 ci_2 ?_
        refine rw_iadd C dL_law_529 ?_
        refine rw_ldS hX hbz C dL_law_530 (fun x62 => ?_)
        refine rw_callLi (As := [.int x61, .int x62]) (k0 := 0) C (by rw [hR]; decide) dL_law_531 cv_L_57 (k_X8_elected g.2.1 κ x61 x62 M5) (by decide) (by decide) sh_0 rfl rfl (Nat.le_of_ble_eq_true rfl) rfl (fun x63 M25 => ?_)
        refine rw_aload_n C dL_law_534 rfl 2 rfl ?_
        refine rw_aload_n C dL_law_535 rfl 0 rfl ?_
        refine rw_iload_n C dL_law_536 rfl 3 rfl ?_
        refine rw_iconst (c := 1) C dL_law_537 ci_1 ?_
        refine rw_iadd C dL_law_538 ?_
        refine rw_ldS hX hbz C dL_law_539 (fun x64 => ?_)
        refine rw_aload_n C dL_law_540 rfl 0 rfl ?_
        refine rw_iload_n C dL_law_541 rfl 3 rfl ?_
        refine rw_iconst (c := 2) C dL_law_542 ci_2 ?_
        refine rw_iadd C dL_law_543 ?_
        refine rw_ldS hX hbz C dL_law_544 (fun x65 => ?_)
        refine rw_callLi (As := [.int x64, .int x65]) (k0 := 196) C (by rw [hR]; decide) dL_law_545 cv_L_60 (k_X9_elected g.2.1 κ x64 x65 M25) (by decide) (by decide) sh_196 rfl rfl (Nat.le_of_ble_eq_true rfl) rfl (fun x66 M26 => ?_)
        refine rw_icmp_eq (tgt := 1408) C dL_law_548 (by decide) ?_ ?_
        · refine rw_iinc (c := 7) (lv' := [(3, .int (x1 + 7)), (0, .ref b), (1, .ref (κ.1 + 0)), (2, .ref (κ.1 + 196))]) C dL_law_1408 3 rfl (by decide) (by decide) rfl ?_
          refine rw_goto (tgt := 18) C dL_law_1411 (by decide) ?_
          exact rw_lv [1, 2, 3, 0] rfl (hrec1 (x1 + 7) M26)
        · refine rw_iconst (c := 0) C dL_law_551 ci_0 ?_
          exact rw_law0
      · show pv_R g κ pv_T pv_RF 4 600000 7302250 (pv_QL g b) 553 [(0, .ref b), (1, .ref (κ.1 + 0)), (2, .ref (κ.1 + 196)), (3, .int x1)] [] M5 (law_c11 L xs x1 M5 rec1)
        unfold law_c11
        refine rw_aload_n C dL_law_553 rfl 1 rfl ?_
        refine rw_aload_n C dL_law_554 rfl 0 rfl ?_
        refine rw_iload_n C dL_law_555 rfl 3 rfl ?_
        refine rw_iconst (c := 1) C dL_law_556 ci_1 ?_
        refine rw_iadd C dL_law_557 ?_
        refine rw_ldS hX hbz C dL_law_558 (fun x67 => ?_)
        refine rw_aload_n C dL_law_559 rfl 0 rfl ?_
        refine rw_iload_n C dL_law_560 rfl 3 rfl ?_
        refine rw_iconst (c := 2) C dL_law_561 ci_2 ?_
        refine rw_iadd C dL_law_562 ?_
        refine rw_ldS hX hbz C dL_law_563 (fun x68 => ?_)
        refine rw_callLi (As := [.int x67, .int x68]) (k0 := 0) C (by rw [hR]; decide) dL_law_564 cv_L_61 (k_X8_great g.2.1 κ x67 x68 M5) (by decide) (by decide) sh_0 rfl rfl (Nat.le_of_ble_eq_true rfl) rfl (fun x69 M27 => ?_)
        refine rw_aload_n C dL_law_567 rfl 2 rfl ?_
        refine rw_aload_n C dL_law_568 rfl 0 rfl ?_
        refine rw_iload_n C dL_law_569 rfl 3 rfl ?_
        refine rw_iconst (c := 1) C dL_law_570 ci_1 ?_
        refine rw_iadd C dL_law_571 ?_
        refine rw_ldS hX hbz C dL_law_572 (fun x70 => ?_)
        refine rw_aload_n C dL_law_573 rfl 0 rfl ?_
        refine rw_iload_n C dL_law_574 rfl 3 rfl ?_
        refine rw_iconst (c := 2) C dL_law_575 ci_2 ?_
        refine rw_iadd C dL_law_576 ?_
        refine rw_ldS hX hbz C dL_law_577 (fun x71 => ?_)
        refine rw_callLi (As := [.int x70, .int x71]) (k0 := 196) C (by rw [hR]; decide) dL_law_578 cv_L_64 (k_X9_great g.2.1 κ x70 x71 M27) (by decide) (by decide) sh_196 rfl rfl (Nat.le_of_ble_eq_true rfl) rfl (fun x72 M28 => ?_)
        refine rw_icmp_eq (tgt := 1408) C dL_law_581 (by decide) ?_ ?_
        · refine rw_iinc (c := 7) (lv' := [(3, .int (x1 + 7)), (0, .ref b), (1, .ref (κ.1 + 0)), (2, .ref (κ.1 + 196))]) C dL_law_1408 3 rfl (by decide) (by decide) rfl ?_
          refine rw_goto (tgt := 18) C dL_law_1411 (by decide) ?_
          exact rw_lv [1, 2, 3, 0] rfl (hrec1 (x1 + 7) M28)
        · refine rw_iconst (c := 0) C dL_law_584 ci_0 ?_
          exact rw_law0
      · show pv_R g κ pv_T pv_RF 4 600000 7302250 (pv_QL g b) 586 [(0, .ref b), (1, .ref (κ.1 + 0)), (2, .ref (κ.1 + 196)), (3, .int x1)] [] M5 (law_c12 L xs x1 M5 rec1)
        unfold law_c12
        refine rw_aload_n C dL_law_586 rfl 1 rfl ?_
        refine rw_aload_n C dL_law_587 rfl 0 rfl ?_
        refine rw_iload_n C dL_law_588 rfl 3 rfl ?_
        refine rw_iconst (c := 1) C dL_law_589 ci_1 ?_
        refine rw_iadd C dL_law_590 ?_
        refine rw_ldS hX hbz C dL_law_591 (fun x73 => ?_)
        refine rw_aload_n C dL_law_592 rfl 0 rfl ?_
        refine rw_iload_n C dL_law_593 rfl 3 rfl ?_
        refine rw_iconst (c := 2) C dL_law_594 ci_2 ?_
        refine rw_iadd C dL_law_595 ?_
        refine rw_ldS hX hbz C dL_law_596 (fun x74 => ?_)
        refine rw_aload_n C dL_law_597 rfl 0 rfl ?_
        refine rw_iload_n C dL_law_598 rfl 3 rfl ?_
        refine rw_iconst (c := 3) C dL_law_599 ci_3 ?_
        refine rw_iadd C dL_law_600 ?_
        refine rw_ldS hX hbz C dL_law_601 (fun x75 => ?_)
        refine rw_callLi (As := [.int x73, .int x74, .int x75]) (k0 := 0) C (by rw [hR]; decide) dL_law_602 cv_L_65 (k_X8_votes g.2.1 κ x73 x74 x75 M5) (by decide) (by decide) sh_0 rfl rfl (Nat.le_of_ble_eq_true rfl) rfl (fun x76 M29 => ?_)
        refine rw_aload_n C dL_law_605 rfl 2 rfl ?_
        refine rw_aload_n C dL_law_606 rfl 0 rfl ?_
        refine rw_iload_n C dL_law_607 rfl 3 rfl ?_
        refine rw_iconst (c := 1) C dL_law_608 ci_1 ?_
        refine rw_iadd C dL_law_609 ?_
        refine rw_ldS hX hbz C dL_law_610 (fun x77 => ?_)
        refine rw_aload_n C dL_law_611 rfl 0 rfl ?_
        refine rw_iload_n C dL_law_612 rfl 3 rfl ?_
        refine rw_iconst (c := 2) C dL_law_613 ci_2 ?_
        refine rw_iadd C dL_law_614 ?_
        refine rw_ldS hX hbz C dL_law_615 (fun x78 => ?_)
        refine rw_aload_n C dL_law_616 rfl 0 rfl ?_
        refine rw_iload_n C dL_law_617 rfl 3 rfl ?_
        refine rw_iconst (c := 3) C dL_law_618 ci_3 ?_
        refine rw_iadd C dL_law_619 ?_
        refine rw_ldS hX hbz C dL_law_620 (fun x79 => ?_)
        refine rw_callLi (As := [.int x77, .int x78, .int x79]) (k0 := 196) C (by rw [hR]; decide) dL_law_621 cv_L_68 (k_X9_votes g.2.1 κ x77 x78 x79 M29) (by decide) (by decide) sh_196 rfl rfl (Nat.le_of_ble_eq_true rfl) rfl (fun x80 M30 => ?_)
        refine rw_icmp_eq (tgt := 1408) C dL_law_624 (by decide) ?_ ?_
        · refine rw_iinc (c := 7) (lv' := [(3, .int (x1 + 7)), (0, .ref b), (1, .ref (κ.1 + 0)), (2, .ref (κ.1 + 196))]) C dL_law_1408 3 rfl (by decide) (by decide) rfl ?_
          refine rw_goto (tgt := 18) C dL_law_1411 (by decide) ?_
          exact rw_lv [1, 2, 3, 0] rfl (hrec1 (x1 + 7) M30)
        · refine rw_iconst (c := 0) C dL_law_627 ci_0 ?_
          exact rw_law0
      · show pv_R g κ pv_T pv_RF 4 600000 7302250 (pv_QL g b) 629 [(0, .ref b), (1, .ref (κ.1 + 0)), (2, .ref (κ.1 + 196)), (3, .int x1)] [] M5 (law_c13 M5 rec1 x1)
        unfold law_c13
        refine rw_aload_n C dL_law_629 rfl 1 rfl ?_
        refine rw_callLi (As := []) (k0 := 0) C (by rw [hR]; decide) dL_law_630 cv_L_69 (k_X8_split g.2.1 κ M5) (by decide) (by decide) sh_0 rfl rfl (Nat.le_of_ble_eq_true rfl) rfl (fun x81 M31 => ?_)
        refine rw_aload_n C dL_law_633 rfl 2 rfl ?_
        refine rw_callLi (As := []) (k0 := 196) C (by rw [hR]; decide) dL_law_634 cv_L_73 (k_X9_split g.2.1 κ M31) (by decide) (by decide) sh_196 rfl rfl (Nat.le_of_ble_eq_true rfl) rfl (fun x82 M32 => ?_)
        refine rw_icmp_eq (tgt := 1408) C dL_law_637 (by decide) ?_ ?_
        · refine rw_iinc (c := 7) (lv' := [(3, .int (x1 + 7)), (0, .ref b), (1, .ref (κ.1 + 0)), (2, .ref (κ.1 + 196))]) C dL_law_1408 3 rfl (by decide) (by decide) rfl ?_
          refine rw_goto (tgt := 18) C dL_law_1411 (by decide) ?_
          exact rw_lv [1, 2, 3, 0] rfl (hrec1 (x1 + 7) M32)
        · refine rw_iconst (c := 0) C dL_law_640 ci_0 ?_
          exact rw_law0
      · show pv_R g κ pv_T pv_RF 4 600000 7302250 (pv_QL g b) 642 [(0, .ref b), (1, .ref (κ.1 + 0)), (2, .ref (κ.1 + 196)), (3, .int x1)] [] M5 (law_c14 L xs x1 M5 rec1)
        unfold law_c14
        refine rw_aload_n C dL_law_642 rfl 1 rfl ?_
        refine rw_aload_n C dL_law_643 rfl 0 rfl ?_
        refine rw_iload_n C dL_law_644 rfl 3 rfl ?_
        refine rw_iconst (c := 1) C dL_law_645 ci_1 ?_
        refine rw_iadd C dL_law_646 ?_
        refine rw_ldS hX hbz C dL_law_647 (fun x83 => ?_)
        refine rw_aload_n C dL_law_648 rfl 0 rfl ?_
        refine rw_iload_n C dL_law_649 rfl 3 rfl ?_
        refine rw_iconst (c := 2) C dL_law_650 ci_2 ?_
        refine rw_iadd C dL_law_651 ?_
        refine rw_ldS hX hbz C dL_law_652 (fun x84 => ?_)
        refine rw_aload_n C dL_law_653 rfl 0 rfl ?_
        refine rw_iload_n C dL_law_654 rfl 3 rfl ?_
        refine rw_iconst (c := 3) C dL_law_655 ci_3 ?_
        refine rw_iadd C dL_law_656 ?_
        refine rw_ldS hX hbz C dL_law_657 (fun x85 => ?_)
        refine rw_aload_n C dL_law_658 rfl 0 rfl ?_
        refine rw_iload_n C dL_law_659 rfl 3 rfl ?_
        refine rw_iconst (c := 4) C dL_law_660 ci_4 ?_
        refine rw_iadd C dL_law_661 ?_
        refine rw_ldS hX hbz C dL_law_662 (fun x86 => ?_)
        refine rw_aload_n C dL_law_663 rfl 0 rfl ?_
        refine rw_iload_n C dL_law_664 rfl 3 rfl ?_
        refine rw_iconst (c := 5) C dL_law_665 ci_5 ?_
        refine rw_iadd C dL_law_666 ?_
        refine rw_ldS hX hbz C dL_law_667 (fun x87 => ?_)
        refine rw_aload_n C dL_law_668 rfl 0 rfl ?_
        refine rw_iload_n C dL_law_669 rfl 3 rfl ?_
        refine rw_bipush (c := 6) C dL_law_670 (by decide) ?_
        refine rw_iadd C dL_law_672 ?_
        refine rw_ldS hX hbz C dL_law_673 (fun x88 => ?_)
        refine rw_callLi (As := [.int x83, .int x84, .int x85, .int x86, .int x87, .int x88]) (k0 := 0) C (by rw [hR]; decide) dL_law_674 cv_L_74 (k_X8_contract g.2.1 κ x83 x84 x85 x86 x87 x88 M5) (by decide) (by decide) sh_0 rfl rfl (Nat.le_of_ble_eq_true rfl) rfl (fun x89 M33 => ?_)
        refine rw_aload_n C dL_law_677 rfl 2 rfl ?_
        refine rw_aload_n C dL_law_678 rfl 0 rfl ?_
        refine rw_iload_n C dL_law_679 rfl 3 rfl ?_
        refine rw_iconst (c := 1) C dL_law_680 ci_1 ?_
        refine rw_iadd C dL_law_681 ?_
        refine rw_ldS hX hbz C dL_law_682 (fun x90 => ?_)
        refine rw_aload_n C dL_law_683 rfl 0 rfl ?_
        refine rw_iload_n C dL_law_684 rfl 3 rfl ?_
        refine rw_iconst (c := 2) C dL_law_685 ci_2 ?_
        refine rw_iadd C dL_law_686 ?_
        refine rw_ldS hX hbz C dL_law_687 (fun x91 => ?_)
        refine rw_aload_n C dL_law_688 rfl 0 rfl ?_
        refine rw_iload_n C dL_law_689 rfl 3 rfl ?_
        refine rw_iconst (c := 3) C dL_law_690 ci_3 ?_
        refine rw_iadd C dL_law_691 ?_
        refine rw_ldS hX hbz C dL_law_692 (fun x92 => ?_)
        refine rw_aload_n C dL_law_693 rfl 0 rfl ?_
        refine rw_iload_n C dL_law_694 rfl 3 rfl ?_
        refine rw_iconst (c := 4) C dL_law_695 ci_4 ?_
        refine rw_iadd C dL_law_696 ?_
        refine rw_ldS hX hbz C dL_law_697 (fun x93 => ?_)
        refine rw_aload_n C dL_law_698 rfl 0 rfl ?_
        refine rw_iload_n C dL_law_699 rfl 3 rfl ?_
        refine rw_iconst (c := 5) C dL_law_700 ci_5 ?_
        refine rw_iadd C dL_law_701 ?_
        refine rw_ldS hX hbz C dL_law_702 (fun x94 => ?_)
        refine rw_aload_n C dL_law_703 rfl 0 rfl ?_
        refine rw_iload_n C dL_law_704 rfl 3 rfl ?_
        refine rw_bipush (c := 6) C dL_law_705 (by decide) ?_
        refine rw_iadd C dL_law_707 ?_
        refine rw_ldS hX hbz C dL_law_708 (fun x95 => ?_)
        refine rw_callLi (As := [.int x90, .int x91, .int x92, .int x93, .int x94, .int x95]) (k0 := 196) C (by rw [hR]; decide) dL_law_709 cv_L_78 (k_X9_contract g.2.1 κ x90 x91 x92 x93 x94 x95 M33) (by decide) (by decide) sh_196 rfl rfl (Nat.le_of_ble_eq_true rfl) rfl (fun x96 M34 => ?_)
        refine rw_icmp_eq (tgt := 1408) C dL_law_712 (by decide) ?_ ?_
        · refine rw_iinc (c := 7) (lv' := [(3, .int (x1 + 7)), (0, .ref b), (1, .ref (κ.1 + 0)), (2, .ref (κ.1 + 196))]) C dL_law_1408 3 rfl (by decide) (by decide) rfl ?_
          refine rw_goto (tgt := 18) C dL_law_1411 (by decide) ?_
          exact rw_lv [1, 2, 3, 0] rfl (hrec1 (x1 + 7) M34)
        · refine rw_iconst (c := 0) C dL_law_715 ci_0 ?_
          exact rw_law0
      · show pv_R g κ pv_T pv_RF 4 600000 7302250 (pv_QL g b) 717 [(0, .ref b), (1, .ref (κ.1 + 0)), (2, .ref (κ.1 + 196)), (3, .int x1)] [] M5 (law_c15 L xs x1 M5 rec1)
        unfold law_c15
        refine rw_aload_n C dL_law_717 rfl 1 rfl ?_
        refine rw_aload_n C dL_law_718 rfl 0 rfl ?_
        refine rw_iload_n C dL_law_719 rfl 3 rfl ?_
        refine rw_iconst (c := 1) C dL_law_720 ci_1 ?_
        refine rw_iadd C dL_law_721 ?_
        refine rw_ldS hX hbz C dL_law_722 (fun x97 => ?_)
        refine rw_aload_n C dL_law_723 rfl 0 rfl ?_
        refine rw_iload_n C dL_law_724 rfl 3 rfl ?_
        refine rw_iconst (c := 2) C dL_law_725 ci_2 ?_
        refine rw_iadd C dL_law_726 ?_
        refine rw_ldS hX hbz C dL_law_727 (fun x98 => ?_)
        refine rw_callLi (As := [.int x97, .int x98]) (k0 := 0) C (by rw [hR]; decide) dL_law_728 cv_L_79 (k_X8_money g.2.1 κ x97 x98 M5) (by decide) (by decide) sh_0 rfl rfl (Nat.le_of_ble_eq_true rfl) rfl (fun x99 M35 => ?_)
        refine rw_aload_n C dL_law_731 rfl 2 rfl ?_
        refine rw_aload_n C dL_law_732 rfl 0 rfl ?_
        refine rw_iload_n C dL_law_733 rfl 3 rfl ?_
        refine rw_iconst (c := 1) C dL_law_734 ci_1 ?_
        refine rw_iadd C dL_law_735 ?_
        refine rw_ldS hX hbz C dL_law_736 (fun x100 => ?_)
        refine rw_aload_n C dL_law_737 rfl 0 rfl ?_
        refine rw_iload_n C dL_law_738 rfl 3 rfl ?_
        refine rw_iconst (c := 2) C dL_law_739 ci_2 ?_
        refine rw_iadd C dL_law_740 ?_
        refine rw_ldS hX hbz C dL_law_741 (fun x101 => ?_)
        refine rw_callLi (As := [.int x100, .int x101]) (k0 := 196) C (by rw [hR]; decide) dL_law_742 cv_L_82 (k_X9_money g.2.1 κ x100 x101 M35) (by decide) (by decide) sh_196 rfl rfl (Nat.le_of_ble_eq_true rfl) rfl (fun x102 M36 => ?_)
        refine rw_icmp_eq (tgt := 1408) C dL_law_745 (by decide) ?_ ?_
        · refine rw_iinc (c := 7) (lv' := [(3, .int (x1 + 7)), (0, .ref b), (1, .ref (κ.1 + 0)), (2, .ref (κ.1 + 196))]) C dL_law_1408 3 rfl (by decide) (by decide) rfl ?_
          refine rw_goto (tgt := 18) C dL_law_1411 (by decide) ?_
          exact rw_lv [1, 2, 3, 0] rfl (hrec1 (x1 + 7) M36)
        · refine rw_iconst (c := 0) C dL_law_748 ci_0 ?_
          exact rw_law0
      · show pv_R g κ pv_T pv_RF 4 600000 7302250 (pv_QL g b) 750 [(0, .ref b), (1, .ref (κ.1 + 0)), (2, .ref (κ.1 + 196)), (3, .int x1)] [] M5 (law_c16 L xs x1 M5 rec1)
        unfold law_c16
        refine rw_aload_n C dL_law_750 rfl 1 rfl ?_
        refine rw_aload_n C dL_law_751 rfl 0 rfl ?_
        refine rw_iload_n C dL_law_752 rfl 3 rfl ?_
        refine rw_iconst (c := 1) C dL_law_753 ci_1 ?_
        refine rw_iadd C dL_law_754 ?_
        refine rw_ldS hX hbz C dL_law_755 (fun x103 => ?_)
        refine rw_callLi (As := [.int x103]) (k0 := 0) C (by rw [hR]; decide) dL_law_756 cv_L_83 (k_X8_ruined g.2.1 κ x103 M5) (by decide) (by decide) sh_0 rfl rfl (Nat.le_of_ble_eq_true rfl) rfl (fun x104 M37 => ?_)
        refine rw_aload_n C dL_law_759 rfl 2 rfl ?_
        refine rw_aload_n C dL_law_760 rfl 0 rfl ?_
        refine rw_iload_n C dL_law_761 rfl 3 rfl ?_
        refine rw_iconst (c := 1) C dL_law_762 ci_1 ?_
        refine rw_iadd C dL_law_763 ?_
        refine rw_ldS hX hbz C dL_law_764 (fun x105 => ?_)
        refine rw_callLi (As := [.int x105]) (k0 := 196) C (by rw [hR]; decide) dL_law_765 cv_L_86 (k_X9_ruined g.2.1 κ x105 M37) (by decide) (by decide) sh_196 rfl rfl (Nat.le_of_ble_eq_true rfl) rfl (fun x106 M38 => ?_)
        refine rw_icmp_eq (tgt := 1408) C dL_law_768 (by decide) ?_ ?_
        · refine rw_iinc (c := 7) (lv' := [(3, .int (x1 + 7)), (0, .ref b), (1, .ref (κ.1 + 0)), (2, .ref (κ.1 + 196))]) C dL_law_1408 3 rfl (by decide) (by decide) rfl ?_
          refine rw_goto (tgt := 18) C dL_law_1411 (by decide) ?_
          exact rw_lv [1, 2, 3, 0] rfl (hrec1 (x1 + 7) M38)
        · refine rw_iconst (c := 0) C dL_law_771 ci_0 ?_
          exact rw_law0
      · show pv_R g κ pv_T pv_RF 4 600000 7302250 (pv_QL g b) 773 [(0, .ref b), (1, .ref (κ.1 + 0)), (2, .ref (κ.1 + 196)), (3, .int x1)] [] M5 (law_c17 L xs x1 M5 rec1)
        unfold law_c17
        refine rw_aload_n C dL_law_773 rfl 1 rfl ?_
        refine rw_aload_n C dL_law_774 rfl 0 rfl ?_
        refine rw_iload_n C dL_law_775 rfl 3 rfl ?_
        refine rw_iconst (c := 1) C dL_law_776 ci_1 ?_
        refine rw_iadd C dL_law_777 ?_
        refine rw_ldS hX hbz C dL_law_778 (fun x107 => ?_)
        refine rw_callLi (As := [.int x107]) (k0 := 0) C (by rw [hR]; decide) dL_law_779 cv_L_87 (k_X8_worst g.2.1 κ x107 M5) (by decide) (by decide) sh_0 rfl rfl (Nat.le_of_ble_eq_true rfl) rfl (fun x108 M39 => ?_)
        refine rw_aload_n C dL_law_782 rfl 2 rfl ?_
        refine rw_aload_n C dL_law_783 rfl 0 rfl ?_
        refine rw_iload_n C dL_law_784 rfl 3 rfl ?_
        refine rw_iconst (c := 1) C dL_law_785 ci_1 ?_
        refine rw_iadd C dL_law_786 ?_
        refine rw_ldS hX hbz C dL_law_787 (fun x109 => ?_)
        refine rw_callLi (As := [.int x109]) (k0 := 196) C (by rw [hR]; decide) dL_law_788 cv_L_90 (k_X9_worst g.2.1 κ x109 M39) (by decide) (by decide) sh_196 rfl rfl (Nat.le_of_ble_eq_true rfl) rfl (fun x110 M40 => ?_)
        refine rw_icmp_eq (tgt := 1408) C dL_law_791 (by decide) ?_ ?_
        · refine rw_iinc (c := 7) (lv' := [(3, .int (x1 + 7)), (0, .ref b), (1, .ref (κ.1 + 0)), (2, .ref (κ.1 + 196))]) C dL_law_1408 3 rfl (by decide) (by decide) rfl ?_
          refine rw_goto (tgt := 18) C dL_law_1411 (by decide) ?_
          exact rw_lv [1, 2, 3, 0] rfl (hrec1 (x1 + 7) M40)
        · refine rw_iconst (c := 0) C dL_law_794 ci_0 ?_
          exact rw_law0
      · show pv_R g κ pv_T pv_RF 4 600000 7302250 (pv_QL g b) 796 [(0, .ref b), (1, .ref (κ.1 + 0)), (2, .ref (κ.1 + 196)), (3, .int x1)] [] M5 (law_c18 L xs x1 M5 rec1)
        unfold law_c18
        refine rw_aload_n C dL_law_796 rfl 1 rfl ?_
        refine rw_aload_n C dL_law_797 rfl 0 rfl ?_
        refine rw_iload_n C dL_law_798 rfl 3 rfl ?_
        refine rw_iconst (c := 1) C dL_law_799 ci_1 ?_
        refine rw_iadd C dL_law_800 ?_
        refine rw_ldS hX hbz C dL_law_801 (fun x111 => ?_)
        refine rw_callLi (As := [.int x111]) (k0 := 0) C (by rw [hR]; decide) dL_law_802 cv_L_91 (k_X8_rest g.2.1 κ x111 M5) (by decide) (by decide) sh_0 rfl rfl (Nat.le_of_ble_eq_true rfl) rfl (fun x112 M41 => ?_)
        refine rw_aload_n C dL_law_805 rfl 2 rfl ?_
        refine rw_aload_n C dL_law_806 rfl 0 rfl ?_
        refine rw_iload_n C dL_law_807 rfl 3 rfl ?_
        refine rw_iconst (c := 1) C dL_law_808 ci_1 ?_
        refine rw_iadd C dL_law_809 ?_
        refine rw_ldS hX hbz C dL_law_810 (fun x113 => ?_)
        refine rw_callLi (As := [.int x113]) (k0 := 196) C (by rw [hR]; decide) dL_law_811 cv_L_94 (k_X9_rest g.2.1 κ x113 M41) (by decide) (by decide) sh_196 rfl rfl (Nat.le_of_ble_eq_true rfl) rfl (fun x114 M42 => ?_)
        refine rw_icmp_eq (tgt := 1408) C dL_law_814 (by decide) ?_ ?_
        · refine rw_iinc (c := 7) (lv' := [(3, .int (x1 + 7)), (0, .ref b), (1, .ref (κ.1 + 0)), (2, .ref (κ.1 + 196))]) C dL_law_1408 3 rfl (by decide) (by decide) rfl ?_
          refine rw_goto (tgt := 18) C dL_law_1411 (by decide) ?_
          exact rw_lv [1, 2, 3, 0] rfl (hrec1 (x1 + 7) M42)
        · refine rw_iconst (c := 0) C dL_law_817 ci_0 ?_
          exact rw_law0
      · show pv_R g κ pv_T pv_RF 4 600000 7302250 (pv_QL g b) 819 [(0, .ref b), (1, .ref (κ.1 + 0)), (2, .ref (κ.1 + 196)), (3, .int x1)] [] M5 (law_c19 M5 rec1 x1)
        unfold law_c19
        refine rw_aload_n C dL_law_819 rfl 1 rfl ?_
        refine rw_callLi (As := []) (k0 := 0) C (by rw [hR]; decide) dL_law_820 cv_L_95 (k_X8_rests g.2.1 κ M5) (by decide) (by decide) sh_0 rfl rfl (Nat.le_of_ble_eq_true rfl) rfl (fun x115 M43 => ?_)
        refine rw_aload_n C dL_law_823 rfl 2 rfl ?_
        refine rw_callLi (As := []) (k0 := 196) C (by rw [hR]; decide) dL_law_824 cv_L_98 (k_X9_rests g.2.1 κ M43) (by decide) (by decide) sh_196 rfl rfl (Nat.le_of_ble_eq_true rfl) rfl (fun x116 M44 => ?_)
        refine rw_icmp_eq (tgt := 1408) C dL_law_827 (by decide) ?_ ?_
        · refine rw_iinc (c := 7) (lv' := [(3, .int (x1 + 7)), (0, .ref b), (1, .ref (κ.1 + 0)), (2, .ref (κ.1 + 196))]) C dL_law_1408 3 rfl (by decide) (by decide) rfl ?_
          refine rw_goto (tgt := 18) C dL_law_1411 (by decide) ?_
          exact rw_lv [1, 2, 3, 0] rfl (hrec1 (x1 + 7) M44)
        · refine rw_iconst (c := 0) C dL_law_830 ci_0 ?_
          exact rw_law0
      · show pv_R g κ pv_T pv_RF 4 600000 7302250 (pv_QL g b) 832 [(0, .ref b), (1, .ref (κ.1 + 0)), (2, .ref (κ.1 + 196)), (3, .int x1)] [] M5 (law_c20 L xs x1 M5 rec1)
        unfold law_c20
        refine rw_aload_n C dL_law_832 rfl 1 rfl ?_
        refine rw_aload_n C dL_law_833 rfl 0 rfl ?_
        refine rw_iload_n C dL_law_834 rfl 3 rfl ?_
        refine rw_iconst (c := 1) C dL_law_835 ci_1 ?_
        refine rw_iadd C dL_law_836 ?_
        refine rw_ldS hX hbz C dL_law_837 (fun x117 => ?_)
        refine rw_aload_n C dL_law_838 rfl 0 rfl ?_
        refine rw_iload_n C dL_law_839 rfl 3 rfl ?_
        refine rw_iconst (c := 2) C dL_law_840 ci_2 ?_
        refine rw_iadd C dL_law_841 ?_
        refine rw_ldS hX hbz C dL_law_842 (fun x118 => ?_)
        refine rw_callLi (As := [.int x117, .int x118]) (k0 := 0) C (by rw [hR]; decide) dL_law_843 cv_L_99 (k_X8_wins g.2.1 κ x117 x118 M5) (by decide) (by decide) sh_0 rfl rfl (Nat.le_of_ble_eq_true rfl) rfl (fun x119 M45 => ?_)
        refine rw_aload_n C dL_law_846 rfl 2 rfl ?_
        refine rw_aload_n C dL_law_847 rfl 0 rfl ?_
        refine rw_iload_n C dL_law_848 rfl 3 rfl ?_
        refine rw_iconst (c := 1) C dL_law_849 ci_1 ?_
        refine rw_iadd C dL_law_850 ?_
        refine rw_ldS hX hbz C dL_law_851 (fun x120 => ?_)
        refine rw_aload_n C dL_law_852 rfl 0 rfl ?_
        refine rw_iload_n C dL_law_853 rfl 3 rfl ?_
        refine rw_iconst (c := 2) C dL_law_854 ci_2 ?_
        refine rw_iadd C dL_law_855 ?_
        refine rw_ldS hX hbz C dL_law_856 (fun x121 => ?_)
        refine rw_callLi (As := [.int x120, .int x121]) (k0 := 196) C (by rw [hR]; decide) dL_law_857 cv_L_102 (k_X9_wins g.2.1 κ x120 x121 M45) (by decide) (by decide) sh_196 rfl rfl (Nat.le_of_ble_eq_true rfl) rfl (fun x122 M46 => ?_)
        refine rw_icmp_eq (tgt := 1408) C dL_law_860 (by decide) ?_ ?_
        · refine rw_iinc (c := 7) (lv' := [(3, .int (x1 + 7)), (0, .ref b), (1, .ref (κ.1 + 0)), (2, .ref (κ.1 + 196))]) C dL_law_1408 3 rfl (by decide) (by decide) rfl ?_
          refine rw_goto (tgt := 18) C dL_law_1411 (by decide) ?_
          exact rw_lv [1, 2, 3, 0] rfl (hrec1 (x1 + 7) M46)
        · refine rw_iconst (c := 0) C dL_law_863 ci_0 ?_
          exact rw_law0
      · show pv_R g κ pv_T pv_RF 4 600000 7302250 (pv_QL g b) 865 [(0, .ref b), (1, .ref (κ.1 + 0)), (2, .ref (κ.1 + 196)), (3, .int x1)] [] M5 (law_c21 L xs x1 M5 rec1)
        unfold law_c21
        refine rw_aload_n C dL_law_865 rfl 1 rfl ?_
        refine rw_aload_n C dL_law_866 rfl 0 rfl ?_
        refine rw_iload_n C dL_law_867 rfl 3 rfl ?_
        refine rw_iconst (c := 1) C dL_law_868 ci_1 ?_
        refine rw_iadd C dL_law_869 ?_
        refine rw_ldS hX hbz C dL_law_870 (fun x123 => ?_)
        refine rw_callLi (As := [.int x123]) (k0 := 0) C (by rw [hR]; decide) dL_law_871 cv_L_103 (k_X8_hedge g.2.1 κ x123 M5) (by decide) (by decide) sh_0 rfl rfl (Nat.le_of_ble_eq_true rfl) rfl (fun x124 M47 => ?_)
        refine rw_aload_n C dL_law_874 rfl 2 rfl ?_
        refine rw_aload_n C dL_law_875 rfl 0 rfl ?_
        refine rw_iload_n C dL_law_876 rfl 3 rfl ?_
        refine rw_iconst (c := 1) C dL_law_877 ci_1 ?_
        refine rw_iadd C dL_law_878 ?_
        refine rw_ldS hX hbz C dL_law_879 (fun x125 => ?_)
        refine rw_callLi (As := [.int x125]) (k0 := 196) C (by rw [hR]; decide) dL_law_880 cv_L_106 (k_X9_hedge g.2.1 κ x125 M47) (by decide) (by decide) sh_196 rfl rfl (Nat.le_of_ble_eq_true rfl) rfl (fun x126 M48 => ?_)
        refine rw_icmp_eq (tgt := 1408) C dL_law_883 (by decide) ?_ ?_
        · refine rw_iinc (c := 7) (lv' := [(3, .int (x1 + 7)), (0, .ref b), (1, .ref (κ.1 + 0)), (2, .ref (κ.1 + 196))]) C dL_law_1408 3 rfl (by decide) (by decide) rfl ?_
          refine rw_goto (tgt := 18) C dL_law_1411 (by decide) ?_
          exact rw_lv [1, 2, 3, 0] rfl (hrec1 (x1 + 7) M48)
        · refine rw_iconst (c := 0) C dL_law_886 ci_0 ?_
          exact rw_law0
      · show pv_R g κ pv_T pv_RF 4 600000 7302250 (pv_QL g b) 888 [(0, .ref b), (1, .ref (κ.1 + 0)), (2, .ref (κ.1 + 196)), (3, .int x1)] [] M5 (law_c22 L xs x1 M5 rec1)
        unfold law_c22
        refine rw_aload_n C dL_law_888 rfl 1 rfl ?_
        refine rw_aload_n C dL_law_889 rfl 0 rfl ?_
        refine rw_iload_n C dL_law_890 rfl 3 rfl ?_
        refine rw_iconst (c := 1) C dL_law_891 ci_1 ?_
        refine rw_iadd C dL_law_892 ?_
        refine rw_ldS hX hbz C dL_law_893 (fun x127 => ?_)
        refine rw_aload_n C dL_law_894 rfl 0 rfl ?_
        refine rw_iload_n C dL_law_895 rfl 3 rfl ?_
        refine rw_iconst (c := 2) C dL_law_896 ci_2 ?_
        refine rw_iadd C dL_law_897 ?_
        refine rw_ldS hX hbz C dL_law_898 (fun x128 => ?_)
        refine rw_aload_n C dL_law_899 rfl 0 rfl ?_
        refine rw_iload_n C dL_law_900 rfl 3 rfl ?_
        refine rw_iconst (c := 3) C dL_law_901 ci_3 ?_
        refine rw_iadd C dL_law_902 ?_
        refine rw_ldS hX hbz C dL_law_903 (fun x129 => ?_)
        refine rw_callLl (As := [.int x127, .int x128, .int x129]) (k0 := 0) C (by rw [hR]; decide) dL_law_904 cv_L_107 (k_X8_worth g.2.1 κ x127 x128 x129 M5) (by decide) (by decide) sh_0 rfl rfl (Nat.le_of_ble_eq_true rfl) rfl (fun x130 M49 => ?_)
        refine rw_aload_n C dL_law_907 rfl 2 rfl ?_
        refine rw_aload_n C dL_law_908 rfl 0 rfl ?_
        refine rw_iload_n C dL_law_909 rfl 3 rfl ?_
        refine rw_iconst (c := 1) C dL_law_910 ci_1 ?_
        refine rw_iadd C dL_law_911 ?_
        refine rw_ldS hX hbz C dL_law_912 (fun x131 => ?_)
        refine rw_aload_n C dL_law_913 rfl 0 rfl ?_
        refine rw_iload_n C dL_law_914 rfl 3 rfl ?_
        refine rw_iconst (c := 2) C dL_law_915 ci_2 ?_
        refine rw_iadd C dL_law_916 ?_
        refine rw_ldS hX hbz C dL_law_917 (fun x132 => ?_)
        refine rw_aload_n C dL_law_918 rfl 0 rfl ?_
        refine rw_iload_n C dL_law_919 rfl 3 rfl ?_
        refine rw_iconst (c := 3) C dL_law_920 ci_3 ?_
        refine rw_iadd C dL_law_921 ?_
        refine rw_ldS hX hbz C dL_law_922 (fun x133 => ?_)
        refine rw_callLl (As := [.int x131, .int x132, .int x133]) (k0 := 196) C (by rw [hR]; decide) dL_law_923 cv_L_111 (k_X9_worth g.2.1 κ x131 x132 x133 M49) (by decide) (by decide) sh_196 rfl rfl (Nat.le_of_ble_eq_true rfl) rfl (fun x134 M50 => ?_)
        refine rw_lcmp C dL_law_926 ?_
        refine rw_if_eq (tgt := 1408) C dL_law_927 (by decide) ?_ ?_
        · refine rw_iinc (c := 7) (lv' := [(3, .int (x1 + 7)), (0, .ref b), (1, .ref (κ.1 + 0)), (2, .ref (κ.1 + 196))]) C dL_law_1408 3 rfl (by decide) (by decide) rfl ?_
          refine rw_goto (tgt := 18) C dL_law_1411 (by decide) ?_
          exact rw_lv [1, 2, 3, 0] rfl (hrec1 (x1 + 7) M50)
        · refine rw_iconst (c := 0) C dL_law_930 ci_0 ?_
          exact rw_law0
      · show pv_R g κ pv_T pv_RF 4 600000 7302250 (pv_QL g b) 932 [(0, .ref b), (1, .ref (κ.1 + 0)), (2, .ref (κ.1 + 196)), (3, .int x1)] [] M5 (law_c23 M5 rec1 x1)
        unfold law_c23
        refine rw_aload_n C dL_law_932 rfl 1 rfl ?_
        refine rw_callLi (As := []) (k0 := 0) C (by rw [hR]; decide) dL_law_933 cv_L_112 (k_X8_clash g.2.1 κ M5) (by decide) (by decide) sh_0 rfl rfl (Nat.le_of_ble_eq_true rfl) rfl (fun x135 M51 => ?_)
        refine rw_aload_n C dL_law_936 rfl 2 rfl ?_
        refine rw_callLi (As := []) (k0 := 196) C (by rw [hR]; decide) dL_law_937 cv_L_115 (k_X9_clash g.2.1 κ M51) (by decide) (by decide) sh_196 rfl rfl (Nat.le_of_ble_eq_true rfl) rfl (fun x136 M52 => ?_)
        refine rw_icmp_eq (tgt := 1408) C dL_law_940 (by decide) ?_ ?_
        · refine rw_iinc (c := 7) (lv' := [(3, .int (x1 + 7)), (0, .ref b), (1, .ref (κ.1 + 0)), (2, .ref (κ.1 + 196))]) C dL_law_1408 3 rfl (by decide) (by decide) rfl ?_
          refine rw_goto (tgt := 18) C dL_law_1411 (by decide) ?_
          exact rw_lv [1, 2, 3, 0] rfl (hrec1 (x1 + 7) M52)
        · refine rw_iconst (c := 0) C dL_law_943 ci_0 ?_
          exact rw_law0
      · show pv_R g κ pv_T pv_RF 4 600000 7302250 (pv_QL g b) 945 [(0, .ref b), (1, .ref (κ.1 + 0)), (2, .ref (κ.1 + 196)), (3, .int x1)] [] M5 (law_c24 M5 rec1 x1)
        unfold law_c24
        refine rw_aload_n C dL_law_945 rfl 1 rfl ?_
        refine rw_callLi (As := []) (k0 := 0) C (by rw [hR]; decide) dL_law_946 cv_L_116 (k_X8_drop g.2.1 κ M5) (by decide) (by decide) sh_0 rfl rfl (Nat.le_of_ble_eq_true rfl) rfl (fun x137 M53 => ?_)
        refine rw_aload_n C dL_law_949 rfl 2 rfl ?_
        refine rw_callLi (As := []) (k0 := 196) C (by rw [hR]; decide) dL_law_950 cv_L_119 (k_X9_drop g.2.1 κ M53) (by decide) (by decide) sh_196 rfl rfl (Nat.le_of_ble_eq_true rfl) rfl (fun x138 M54 => ?_)
        refine rw_icmp_eq (tgt := 1408) C dL_law_953 (by decide) ?_ ?_
        · refine rw_iinc (c := 7) (lv' := [(3, .int (x1 + 7)), (0, .ref b), (1, .ref (κ.1 + 0)), (2, .ref (κ.1 + 196))]) C dL_law_1408 3 rfl (by decide) (by decide) rfl ?_
          refine rw_goto (tgt := 18) C dL_law_1411 (by decide) ?_
          exact rw_lv [1, 2, 3, 0] rfl (hrec1 (x1 + 7) M54)
        · refine rw_iconst (c := 0) C dL_law_956 ci_0 ?_
          exact rw_law0
      · show pv_R g κ pv_T pv_RF 4 600000 7302250 (pv_QL g b) 958 [(0, .ref b), (1, .ref (κ.1 + 0)), (2, .ref (κ.1 + 196)), (3, .int x1)] [] M5 (law_c25 L xs x1 M5 rec1)
        unfold law_c25
        refine rw_aload_n C dL_law_958 rfl 1 rfl ?_
        refine rw_aload_n C dL_law_959 rfl 0 rfl ?_
        refine rw_iload_n C dL_law_960 rfl 3 rfl ?_
        refine rw_iconst (c := 1) C dL_law_961 ci_1 ?_
        refine rw_iadd C dL_law_962 ?_
        refine rw_ldS hX hbz C dL_law_963 (fun x139 => ?_)
        refine rw_aload_n C dL_law_964 rfl 0 rfl ?_
        refine rw_iload_n C dL_law_965 rfl 3 rfl ?_
        refine rw_iconst (c := 2) C dL_law_966 ci_2 ?_
        refine rw_iadd C dL_law_967 ?_
        refine rw_ldS hX hbz C dL_law_968 (fun x140 => ?_)
        refine rw_aload_n C dL_law_969 rfl 0 rfl ?_
        refine rw_iload_n C dL_law_970 rfl 3 rfl ?_
        refine rw_iconst (c := 3) C dL_law_971 ci_3 ?_
        refine rw_iadd C dL_law_972 ?_
        refine rw_ldS hX hbz C dL_law_973 (fun x141 => ?_)
        refine rw_aload_n C dL_law_974 rfl 0 rfl ?_
        refine rw_iload_n C dL_law_975 rfl 3 rfl ?_
        refine rw_iconst (c := 4) C dL_law_976 ci_4 ?_
        refine rw_iadd C dL_law_977 ?_
        refine rw_ldS hX hbz C dL_law_978 (fun x142 => ?_)
        refine rw_callLi (As := [.int x139, .int x140, .int x141, .int x142]) (k0 := 0) C (by rw [hR]; decide) dL_law_979 cv_L_120 (k_X8_rate g.2.1 κ x139 x140 x141 x142 M5) (by decide) (by decide) sh_0 rfl rfl (Nat.le_of_ble_eq_true rfl) rfl (fun x143 M55 => ?_)
        refine rw_aload_n C dL_law_982 rfl 2 rfl ?_
        refine rw_aload_n C dL_law_983 rfl 0 rfl ?_
        refine rw_iload_n C dL_law_984 rfl 3 rfl ?_
        refine rw_iconst (c := 1) C dL_law_985 ci_1 ?_
        refine rw_iadd C dL_law_986 ?_
        refine rw_ldS hX hbz C dL_law_987 (fun x144 => ?_)
        refine rw_aload_n C dL_law_988 rfl 0 rfl ?_
        refine rw_iload_n C dL_law_989 rfl 3 rfl ?_
        refine rw_iconst (c := 2) C dL_law_990 ci_2 ?_
        refine rw_iadd C dL_law_991 ?_
        refine rw_ldS hX hbz C dL_law_992 (fun x145 => ?_)
        refine rw_aload_n C dL_law_993 rfl 0 rfl ?_
        refine rw_iload_n C dL_law_994 rfl 3 rfl ?_
        refine rw_iconst (c := 3) C dL_law_995 ci_3 ?_
        refine rw_iadd C dL_law_996 ?_
        refine rw_ldS hX hbz C dL_law_997 (fun x146 => ?_)
        refine rw_aload_n C dL_law_998 rfl 0 rfl ?_
        refine rw_iload_n C dL_law_999 rfl 3 rfl ?_
        refine rw_iconst (c := 4) C dL_law_1000 ci_4 ?_
        refine rw_iadd C dL_law_1001 ?_
        refine rw_ldS hX hbz C dL_law_1002 (fun x147 => ?_)
        refine rw_callLi (As := [.int x144, .int x145, .int x146, .int x147]) (k0 := 196) C (by rw [hR]; decide) dL_law_1003 cv_L_123 (k_X9_rate g.2.1 κ x144 x145 x146 x147 M55) (by decide) (by decide) sh_196 rfl rfl (Nat.le_of_ble_eq_true rfl) rfl (fun x148 M56 => ?_)
        refine rw_icmp_eq (tgt := 1408) C dL_law_1006 (by decide) ?_ ?_
        · refine rw_iinc (c := 7) (lv' := [(3, .int (x1 + 7)), (0, .ref b), (1, .ref (κ.1 + 0)), (2, .ref (κ.1 + 196))]) C dL_law_1408 3 rfl (by decide) (by decide) rfl ?_
          refine rw_goto (tgt := 18) C dL_law_1411 (by decide) ?_
          exact rw_lv [1, 2, 3, 0] rfl (hrec1 (x1 + 7) M56)
        · refine rw_iconst (c := 0) C dL_law_1009 ci_0 ?_
          exact rw_law0
      · show pv_R g κ pv_T pv_RF 4 600000 7302250 (pv_QL g b) 1011 [(0, .ref b), (1, .ref (κ.1 + 0)), (2, .ref (κ.1 + 196)), (3, .int x1)] [] M5 (law_c26 L xs x1 M5 rec1)
        unfold law_c26
        refine rw_aload_n C dL_law_1011 rfl 1 rfl ?_
        refine rw_aload_n C dL_law_1012 rfl 0 rfl ?_
        refine rw_iload_n C dL_law_1013 rfl 3 rfl ?_
        refine rw_iconst (c := 1) C dL_law_1014 ci_1 ?_
        refine rw_iadd C dL_law_1015 ?_
        refine rw_ldS hX hbz C dL_law_1016 (fun x149 => ?_)
        refine rw_callLi (As := [.int x149]) (k0 := 0) C (by rw [hR]; decide) dL_law_1017 cv_L_124 (k_X8_round g.2.1 κ x149 M5) (by decide) (by decide) sh_0 rfl rfl (Nat.le_of_ble_eq_true rfl) rfl (fun x150 M57 => ?_)
        refine rw_aload_n C dL_law_1020 rfl 2 rfl ?_
        refine rw_aload_n C dL_law_1021 rfl 0 rfl ?_
        refine rw_iload_n C dL_law_1022 rfl 3 rfl ?_
        refine rw_iconst (c := 1) C dL_law_1023 ci_1 ?_
        refine rw_iadd C dL_law_1024 ?_
        refine rw_ldS hX hbz C dL_law_1025 (fun x151 => ?_)
        refine rw_callLi (As := [.int x151]) (k0 := 196) C (by rw [hR]; decide) dL_law_1026 cv_L_127 (k_X9_round g.2.1 κ x151 M57) (by decide) (by decide) sh_196 rfl rfl (Nat.le_of_ble_eq_true rfl) rfl (fun x152 M58 => ?_)
        refine rw_icmp_eq (tgt := 1408) C dL_law_1029 (by decide) ?_ ?_
        · refine rw_iinc (c := 7) (lv' := [(3, .int (x1 + 7)), (0, .ref b), (1, .ref (κ.1 + 0)), (2, .ref (κ.1 + 196))]) C dL_law_1408 3 rfl (by decide) (by decide) rfl ?_
          refine rw_goto (tgt := 18) C dL_law_1411 (by decide) ?_
          exact rw_lv [1, 2, 3, 0] rfl (hrec1 (x1 + 7) M58)
        · refine rw_iconst (c := 0) C dL_law_1032 ci_0 ?_
          exact rw_law0
      · show pv_R g κ pv_T pv_RF 4 600000 7302250 (pv_QL g b) 1034 [(0, .ref b), (1, .ref (κ.1 + 0)), (2, .ref (κ.1 + 196)), (3, .int x1)] [] M5 (law_c27 L xs x1 M5 rec1)
        unfold law_c27
        refine rw_aload_n C dL_law_1034 rfl 1 rfl ?_
        refine rw_aload_n C dL_law_1035 rfl 0 rfl ?_
        refine rw_iload_n C dL_law_1036 rfl 3 rfl ?_
        refine rw_iconst (c := 1) C dL_law_1037 ci_1 ?_
        refine rw_iadd C dL_law_1038 ?_
        refine rw_ldS hX hbz C dL_law_1039 (fun x153 => ?_)
        refine rw_aload_n C dL_law_1040 rfl 0 rfl ?_
        refine rw_iload_n C dL_law_1041 rfl 3 rfl ?_
        refine rw_iconst (c := 2) C dL_law_1042 ci_2 ?_
        refine rw_iadd C dL_law_1043 ?_
        refine rw_ldS hX hbz C dL_law_1044 (fun x154 => ?_)
        refine rw_aload_n C dL_law_1045 rfl 0 rfl ?_
        refine rw_iload_n C dL_law_1046 rfl 3 rfl ?_
        refine rw_iconst (c := 3) C dL_law_1047 ci_3 ?_
        refine rw_iadd C dL_law_1048 ?_
        refine rw_ldS hX hbz C dL_law_1049 (fun x155 => ?_)
        refine rw_callLi (As := [.int x153, .int x154, .int x155]) (k0 := 0) C (by rw [hR]; decide) dL_law_1050 cv_L_128 (k_X8_bill g.2.1 κ x153 x154 x155 M5) (by decide) (by decide) sh_0 rfl rfl (Nat.le_of_ble_eq_true rfl) rfl (fun x156 M59 => ?_)
        refine rw_aload_n C dL_law_1053 rfl 2 rfl ?_
        refine rw_aload_n C dL_law_1054 rfl 0 rfl ?_
        refine rw_iload_n C dL_law_1055 rfl 3 rfl ?_
        refine rw_iconst (c := 1) C dL_law_1056 ci_1 ?_
        refine rw_iadd C dL_law_1057 ?_
        refine rw_ldS hX hbz C dL_law_1058 (fun x157 => ?_)
        refine rw_aload_n C dL_law_1059 rfl 0 rfl ?_
        refine rw_iload_n C dL_law_1060 rfl 3 rfl ?_
        refine rw_iconst (c := 2) C dL_law_1061 ci_2 ?_
        refine rw_iadd C dL_law_1062 ?_
        refine rw_ldS hX hbz C dL_law_1063 (fun x158 => ?_)
        refine rw_aload_n C dL_law_1064 rfl 0 rfl ?_
        refine rw_iload_n C dL_law_1065 rfl 3 rfl ?_
        refine rw_iconst (c := 3) C dL_law_1066 ci_3 ?_
        refine rw_iadd C dL_law_1067 ?_
        refine rw_ldS hX hbz C dL_law_1068 (fun x159 => ?_)
        refine rw_callLi (As := [.int x157, .int x158, .int x159]) (k0 := 196) C (by rw [hR]; decide) dL_law_1069 cv_L_131 (k_X9_bill g.2.1 κ x157 x158 x159 M59) (by decide) (by decide) sh_196 rfl rfl (Nat.le_of_ble_eq_true rfl) rfl (fun x160 M60 => ?_)
        refine rw_icmp_eq (tgt := 1408) C dL_law_1072 (by decide) ?_ ?_
        · refine rw_iinc (c := 7) (lv' := [(3, .int (x1 + 7)), (0, .ref b), (1, .ref (κ.1 + 0)), (2, .ref (κ.1 + 196))]) C dL_law_1408 3 rfl (by decide) (by decide) rfl ?_
          refine rw_goto (tgt := 18) C dL_law_1411 (by decide) ?_
          exact rw_lv [1, 2, 3, 0] rfl (hrec1 (x1 + 7) M60)
        · refine rw_iconst (c := 0) C dL_law_1075 ci_0 ?_
          exact rw_law0
      · show pv_R g κ pv_T pv_RF 4 600000 7302250 (pv_QL g b) 1077 [(0, .ref b), (1, .ref (κ.1 + 0)), (2, .ref (κ.1 + 196)), (3, .int x1)] [] M5 (law_c28 M5 rec1 x1)
        unfold law_c28
        refine rw_aload_n C dL_law_1077 rfl 1 rfl ?_
        refine rw_callLi (As := []) (k0 := 0) C (by rw [hR]; decide) dL_law_1078 cv_L_132 (k_X8_years g.2.1 κ M5) (by decide) (by decide) sh_0 rfl rfl (Nat.le_of_ble_eq_true rfl) rfl (fun x161 M61 => ?_)
        refine rw_aload_n C dL_law_1081 rfl 2 rfl ?_
        refine rw_callLi (As := []) (k0 := 196) C (by rw [hR]; decide) dL_law_1082 cv_L_135 (k_X9_years g.2.1 κ M61) (by decide) (by decide) sh_196 rfl rfl (Nat.le_of_ble_eq_true rfl) rfl (fun x162 M62 => ?_)
        refine rw_icmp_eq (tgt := 1408) C dL_law_1085 (by decide) ?_ ?_
        · refine rw_iinc (c := 7) (lv' := [(3, .int (x1 + 7)), (0, .ref b), (1, .ref (κ.1 + 0)), (2, .ref (κ.1 + 196))]) C dL_law_1408 3 rfl (by decide) (by decide) rfl ?_
          refine rw_goto (tgt := 18) C dL_law_1411 (by decide) ?_
          exact rw_lv [1, 2, 3, 0] rfl (hrec1 (x1 + 7) M62)
        · refine rw_iconst (c := 0) C dL_law_1088 ci_0 ?_
          exact rw_law0
      · show pv_R g κ pv_T pv_RF 4 600000 7302250 (pv_QL g b) 1090 [(0, .ref b), (1, .ref (κ.1 + 0)), (2, .ref (κ.1 + 196)), (3, .int x1)] [] M5 (law_c29 L xs x1 M5 rec1)
        unfold law_c29
        refine rw_aload_n C dL_law_1090 rfl 1 rfl ?_
        refine rw_aload_n C dL_law_1091 rfl 0 rfl ?_
        refine rw_iload_n C dL_law_1092 rfl 3 rfl ?_
        refine rw_iconst (c := 1) C dL_law_1093 ci_1 ?_
        refine rw_iadd C dL_law_1094 ?_
        refine rw_ldS hX hbz C dL_law_1095 (fun x163 => ?_)
        refine rw_aload_n C dL_law_1096 rfl 0 rfl ?_
        refine rw_iload_n C dL_law_1097 rfl 3 rfl ?_
        refine rw_iconst (c := 2) C dL_law_1098 ci_2 ?_
        refine rw_iadd C dL_law_1099 ?_
        refine rw_ldS hX hbz C dL_law_1100 (fun x164 => ?_)
        refine rw_aload_n C dL_law_1101 rfl 0 rfl ?_
        refine rw_iload_n C dL_law_1102 rfl 3 rfl ?_
        refine rw_iconst (c := 3) C dL_law_1103 ci_3 ?_
        refine rw_iadd C dL_law_1104 ?_
        refine rw_ldS hX hbz C dL_law_1105 (fun x165 => ?_)
        refine rw_callLi (As := [.int x163, .int x164, .int x165]) (k0 := 0) C (by rw [hR]; decide) dL_law_1106 cv_L_136 (k_X8_sheet g.2.1 κ x163 x164 x165 M5) (by decide) (by decide) sh_0 rfl rfl (Nat.le_of_ble_eq_true rfl) rfl (fun x166 M63 => ?_)
        refine rw_aload_n C dL_law_1109 rfl 2 rfl ?_
        refine rw_aload_n C dL_law_1110 rfl 0 rfl ?_
        refine rw_iload_n C dL_law_1111 rfl 3 rfl ?_
        refine rw_iconst (c := 1) C dL_law_1112 ci_1 ?_
        refine rw_iadd C dL_law_1113 ?_
        refine rw_ldS hX hbz C dL_law_1114 (fun x167 => ?_)
        refine rw_aload_n C dL_law_1115 rfl 0 rfl ?_
        refine rw_iload_n C dL_law_1116 rfl 3 rfl ?_
        refine rw_iconst (c := 2) C dL_law_1117 ci_2 ?_
        refine rw_iadd C dL_law_1118 ?_
        refine rw_ldS hX hbz C dL_law_1119 (fun x168 => ?_)
        refine rw_aload_n C dL_law_1120 rfl 0 rfl ?_
        refine rw_iload_n C dL_law_1121 rfl 3 rfl ?_
        refine rw_iconst (c := 3) C dL_law_1122 ci_3 ?_
        refine rw_iadd C dL_law_1123 ?_
        refine rw_ldS hX hbz C dL_law_1124 (fun x169 => ?_)
        refine rw_callLi (As := [.int x167, .int x168, .int x169]) (k0 := 196) C (by rw [hR]; decide) dL_law_1125 cv_L_139 (k_X9_sheet g.2.1 κ x167 x168 x169 M63) (by decide) (by decide) sh_196 rfl rfl (Nat.le_of_ble_eq_true rfl) rfl (fun x170 M64 => ?_)
        refine rw_icmp_eq (tgt := 1408) C dL_law_1128 (by decide) ?_ ?_
        · refine rw_iinc (c := 7) (lv' := [(3, .int (x1 + 7)), (0, .ref b), (1, .ref (κ.1 + 0)), (2, .ref (κ.1 + 196))]) C dL_law_1408 3 rfl (by decide) (by decide) rfl ?_
          refine rw_goto (tgt := 18) C dL_law_1411 (by decide) ?_
          exact rw_lv [1, 2, 3, 0] rfl (hrec1 (x1 + 7) M64)
        · refine rw_iconst (c := 0) C dL_law_1131 ci_0 ?_
          exact rw_law0
      · show pv_R g κ pv_T pv_RF 4 600000 7302250 (pv_QL g b) 1133 [(0, .ref b), (1, .ref (κ.1 + 0)), (2, .ref (κ.1 + 196)), (3, .int x1)] [] M5 (law_c30 L xs x1 M5 rec1)
        unfold law_c30
        refine rw_aload_n C dL_law_1133 rfl 1 rfl ?_
        refine rw_aload_n C dL_law_1134 rfl 0 rfl ?_
        refine rw_iload_n C dL_law_1135 rfl 3 rfl ?_
        refine rw_iconst (c := 1) C dL_law_1136 ci_1 ?_
        refine rw_iadd C dL_law_1137 ?_
        refine rw_ldS hX hbz C dL_law_1138 (fun x171 => ?_)
        refine rw_callLi (As := [.int x171]) (k0 := 0) C (by rw [hR]; decide) dL_law_1139 cv_L_140 (k_X8_lose g.2.1 κ x171 M5) (by decide) (by decide) sh_0 rfl rfl (Nat.le_of_ble_eq_true rfl) rfl (fun x172 M65 => ?_)
        refine rw_aload_n C dL_law_1142 rfl 2 rfl ?_
        refine rw_aload_n C dL_law_1143 rfl 0 rfl ?_
        refine rw_iload_n C dL_law_1144 rfl 3 rfl ?_
        refine rw_iconst (c := 1) C dL_law_1145 ci_1 ?_
        refine rw_iadd C dL_law_1146 ?_
        refine rw_ldS hX hbz C dL_law_1147 (fun x173 => ?_)
        refine rw_callLi (As := [.int x173]) (k0 := 196) C (by rw [hR]; decide) dL_law_1148 cv_L_143 (k_X9_lose g.2.1 κ x173 M65) (by decide) (by decide) sh_196 rfl rfl (Nat.le_of_ble_eq_true rfl) rfl (fun x174 M66 => ?_)
        refine rw_icmp_eq (tgt := 1408) C dL_law_1151 (by decide) ?_ ?_
        · refine rw_iinc (c := 7) (lv' := [(3, .int (x1 + 7)), (0, .ref b), (1, .ref (κ.1 + 0)), (2, .ref (κ.1 + 196))]) C dL_law_1408 3 rfl (by decide) (by decide) rfl ?_
          refine rw_goto (tgt := 18) C dL_law_1411 (by decide) ?_
          exact rw_lv [1, 2, 3, 0] rfl (hrec1 (x1 + 7) M66)
        · refine rw_iconst (c := 0) C dL_law_1154 ci_0 ?_
          exact rw_law0
      · show pv_R g κ pv_T pv_RF 4 600000 7302250 (pv_QL g b) 1156 [(0, .ref b), (1, .ref (κ.1 + 0)), (2, .ref (κ.1 + 196)), (3, .int x1)] [] M5 (law_c31 L xs x1 M5 rec1)
        unfold law_c31
        refine rw_aload_n C dL_law_1156 rfl 1 rfl ?_
        refine rw_aload_n C dL_law_1157 rfl 0 rfl ?_
        refine rw_iload_n C dL_law_1158 rfl 3 rfl ?_
        refine rw_iconst (c := 1) C dL_law_1159 ci_1 ?_
        refine rw_iadd C dL_law_1160 ?_
        refine rw_ldS hX hbz C dL_law_1161 (fun x175 => ?_)
        refine rw_aload_n C dL_law_1162 rfl 0 rfl ?_
        refine rw_iload_n C dL_law_1163 rfl 3 rfl ?_
        refine rw_iconst (c := 2) C dL_law_1164 ci_2 ?_
        refine rw_iadd C dL_law_1165 ?_
        refine rw_ldS hX hbz C dL_law_1166 (fun x176 => ?_)
        refine rw_aload_n C dL_law_1167 rfl 0 rfl ?_
        refine rw_iload_n C dL_law_1168 rfl 3 rfl ?_
        refine rw_iconst (c := 3) C dL_law_1169 ci_3 ?_
        refine rw_iadd C dL_law_1170 ?_
        refine rw_ldS hX hbz C dL_law_1171 (fun x177 => ?_)
        refine rw_aload_n C dL_law_1172 rfl 0 rfl ?_
        refine rw_iload_n C dL_law_1173 rfl 3 rfl ?_
        refine rw_iconst (c := 4) C dL_law_1174 ci_4 ?_
        refine rw_iadd C dL_law_1175 ?_
        refine rw_ldS hX hbz C dL_law_1176 (fun x178 => ?_)
        refine rw_callLi (As := [.int x175, .int x176, .int x177, .int x178]) (k0 := 0) C (by rw [hR]; decide) dL_law_1177 cv_L_144 (k_X8_lay g.2.1 κ x175 x176 x177 x178 M5) (by decide) (by decide) sh_0 rfl rfl (Nat.le_of_ble_eq_true rfl) rfl (fun x179 M67 => ?_)
        refine rw_aload_n C dL_law_1180 rfl 2 rfl ?_
        refine rw_aload_n C dL_law_1181 rfl 0 rfl ?_
        refine rw_iload_n C dL_law_1182 rfl 3 rfl ?_
        refine rw_iconst (c := 1) C dL_law_1183 ci_1 ?_
        refine rw_iadd C dL_law_1184 ?_
        refine rw_ldS hX hbz C dL_law_1185 (fun x180 => ?_)
        refine rw_aload_n C dL_law_1186 rfl 0 rfl ?_
        refine rw_iload_n C dL_law_1187 rfl 3 rfl ?_
        refine rw_iconst (c := 2) C dL_law_1188 ci_2 ?_
        refine rw_iadd C dL_law_1189 ?_
        refine rw_ldS hX hbz C dL_law_1190 (fun x181 => ?_)
        refine rw_aload_n C dL_law_1191 rfl 0 rfl ?_
        refine rw_iload_n C dL_law_1192 rfl 3 rfl ?_
        refine rw_iconst (c := 3) C dL_law_1193 ci_3 ?_
        refine rw_iadd C dL_law_1194 ?_
        refine rw_ldS hX hbz C dL_law_1195 (fun x182 => ?_)
        refine rw_aload_n C dL_law_1196 rfl 0 rfl ?_
        refine rw_iload_n C dL_law_1197 rfl 3 rfl ?_
        refine rw_iconst (c := 4) C dL_law_1198 ci_4 ?_
        refine rw_iadd C dL_law_1199 ?_
        refine rw_ldS hX hbz C dL_law_1200 (fun x183 => ?_)
        refine rw_callLi (As := [.int x180, .int x181, .int x182, .int x183]) (k0 := 196) C (by rw [hR]; decide) dL_law_1201 cv_L_147 (k_X9_lay g.2.1 κ x180 x181 x182 x183 M67) (by decide) (by decide) sh_196 rfl rfl (Nat.le_of_ble_eq_true rfl) rfl (fun x184 M68 => ?_)
        refine rw_icmp_eq (tgt := 1408) C dL_law_1204 (by decide) ?_ ?_
        · refine rw_iinc (c := 7) (lv' := [(3, .int (x1 + 7)), (0, .ref b), (1, .ref (κ.1 + 0)), (2, .ref (κ.1 + 196))]) C dL_law_1408 3 rfl (by decide) (by decide) rfl ?_
          refine rw_goto (tgt := 18) C dL_law_1411 (by decide) ?_
          exact rw_lv [1, 2, 3, 0] rfl (hrec1 (x1 + 7) M68)
        · refine rw_iconst (c := 0) C dL_law_1207 ci_0 ?_
          exact rw_law0
      · show pv_R g κ pv_T pv_RF 4 600000 7302250 (pv_QL g b) 1209 [(0, .ref b), (1, .ref (κ.1 + 0)), (2, .ref (κ.1 + 196)), (3, .int x1)] [] M5 (law_c32 L xs x1 M5 rec1)
        unfold law_c32
        refine rw_aload_n C dL_law_1209 rfl 1 rfl ?_
        refine rw_aload_n C dL_law_1210 rfl 0 rfl ?_
        refine rw_iload_n C dL_law_1211 rfl 3 rfl ?_
        refine rw_iconst (c := 1) C dL_law_1212 ci_1 ?_
        refine rw_iadd C dL_law_1213 ?_
        refine rw_ldS hX hbz C dL_law_1214 (fun x185 => ?_)
        refine rw_aload_n C dL_law_1215 rfl 0 rfl ?_
        refine rw_iload_n C dL_law_1216 rfl 3 rfl ?_
        refine rw_iconst (c := 2) C dL_law_1217 ci_2 ?_
        refine rw_iadd C dL_law_1218 ?_
        refine rw_ldS hX hbz C dL_law_1219 (fun x186 => ?_)
        refine rw_aload_n C dL_law_1220 rfl 0 rfl ?_
        refine rw_iload_n C dL_law_1221 rfl 3 rfl ?_
        refine rw_iconst (c := 3) C dL_law_1222 ci_3 ?_
        refine rw_iadd C dL_law_1223 ?_
        refine rw_ldS hX hbz C dL_law_1224 (fun x187 => ?_)
        refine rw_callLi (As := [.int x185, .int x186, .int x187]) (k0 := 0) C (by rw [hR]; decide) dL_law_1225 cv_L_148 (k_X8_get g.2.1 κ x185 x186 x187 M5) (by decide) (by decide) sh_0 rfl rfl (Nat.le_of_ble_eq_true rfl) rfl (fun x188 M69 => ?_)
        refine rw_aload_n C dL_law_1228 rfl 2 rfl ?_
        refine rw_aload_n C dL_law_1229 rfl 0 rfl ?_
        refine rw_iload_n C dL_law_1230 rfl 3 rfl ?_
        refine rw_iconst (c := 1) C dL_law_1231 ci_1 ?_
        refine rw_iadd C dL_law_1232 ?_
        refine rw_ldS hX hbz C dL_law_1233 (fun x189 => ?_)
        refine rw_aload_n C dL_law_1234 rfl 0 rfl ?_
        refine rw_iload_n C dL_law_1235 rfl 3 rfl ?_
        refine rw_iconst (c := 2) C dL_law_1236 ci_2 ?_
        refine rw_iadd C dL_law_1237 ?_
        refine rw_ldS hX hbz C dL_law_1238 (fun x190 => ?_)
        refine rw_aload_n C dL_law_1239 rfl 0 rfl ?_
        refine rw_iload_n C dL_law_1240 rfl 3 rfl ?_
        refine rw_iconst (c := 3) C dL_law_1241 ci_3 ?_
        refine rw_iadd C dL_law_1242 ?_
        refine rw_ldS hX hbz C dL_law_1243 (fun x191 => ?_)
        refine rw_callLi (As := [.int x189, .int x190, .int x191]) (k0 := 196) C (by rw [hR]; decide) dL_law_1244 cv_L_151 (k_X9_get g.2.1 κ x189 x190 x191 M69) (by decide) (by decide) sh_196 rfl rfl (Nat.le_of_ble_eq_true rfl) rfl (fun x192 M70 => ?_)
        refine rw_icmp_eq (tgt := 1408) C dL_law_1247 (by decide) ?_ ?_
        · refine rw_iinc (c := 7) (lv' := [(3, .int (x1 + 7)), (0, .ref b), (1, .ref (κ.1 + 0)), (2, .ref (κ.1 + 196))]) C dL_law_1408 3 rfl (by decide) (by decide) rfl ?_
          refine rw_goto (tgt := 18) C dL_law_1411 (by decide) ?_
          exact rw_lv [1, 2, 3, 0] rfl (hrec1 (x1 + 7) M70)
        · refine rw_iconst (c := 0) C dL_law_1250 ci_0 ?_
          exact rw_law0
      · show pv_R g κ pv_T pv_RF 4 600000 7302250 (pv_QL g b) 1252 [(0, .ref b), (1, .ref (κ.1 + 0)), (2, .ref (κ.1 + 196)), (3, .int x1)] [] M5 (law_c33 L xs x1 M5 rec1)
        unfold law_c33
        refine rw_aload_n C dL_law_1252 rfl 1 rfl ?_
        refine rw_aload_n C dL_law_1253 rfl 0 rfl ?_
        refine rw_iload_n C dL_law_1254 rfl 3 rfl ?_
        refine rw_iconst (c := 1) C dL_law_1255 ci_1 ?_
        refine rw_iadd C dL_law_1256 ?_
        refine rw_ldS hX hbz C dL_law_1257 (fun x193 => ?_)
        refine rw_aload_n C dL_law_1258 rfl 0 rfl ?_
        refine rw_iload_n C dL_law_1259 rfl 3 rfl ?_
        refine rw_iconst (c := 2) C dL_law_1260 ci_2 ?_
        refine rw_iadd C dL_law_1261 ?_
        refine rw_ldS hX hbz C dL_law_1262 (fun x194 => ?_)
        refine rw_aload_n C dL_law_1263 rfl 0 rfl ?_
        refine rw_iload_n C dL_law_1264 rfl 3 rfl ?_
        refine rw_iconst (c := 3) C dL_law_1265 ci_3 ?_
        refine rw_iadd C dL_law_1266 ?_
        refine rw_ldS hX hbz C dL_law_1267 (fun x195 => ?_)
        refine rw_aload_n C dL_law_1268 rfl 0 rfl ?_
        refine rw_iload_n C dL_law_1269 rfl 3 rfl ?_
        refine rw_iconst (c := 4) C dL_law_1270 ci_4 ?_
        refine rw_iadd C dL_law_1271 ?_
        refine rw_ldS hX hbz C dL_law_1272 (fun x196 => ?_)
        refine rw_aload_n C dL_law_1273 rfl 0 rfl ?_
        refine rw_iload_n C dL_law_1274 rfl 3 rfl ?_
        refine rw_iconst (c := 5) C dL_law_1275 ci_5 ?_
        refine rw_iadd C dL_law_1276 ?_
        refine rw_ldS hX hbz C dL_law_1277 (fun x197 => ?_)
        refine rw_callLi (As := [.int x193, .int x194, .int x195, .int x196, .int x197]) (k0 := 0) C (by rw [hR]; decide) dL_law_1278 cv_L_152 (k_X8_copy g.2.1 κ x193 x194 x195 x196 x197 M5) (by decide) (by decide) sh_0 rfl rfl (Nat.le_of_ble_eq_true rfl) rfl (fun x198 M71 => ?_)
        refine rw_aload_n C dL_law_1281 rfl 2 rfl ?_
        refine rw_aload_n C dL_law_1282 rfl 0 rfl ?_
        refine rw_iload_n C dL_law_1283 rfl 3 rfl ?_
        refine rw_iconst (c := 1) C dL_law_1284 ci_1 ?_
        refine rw_iadd C dL_law_1285 ?_
        refine rw_ldS hX hbz C dL_law_1286 (fun x199 => ?_)
        refine rw_aload_n C dL_law_1287 rfl 0 rfl ?_
        refine rw_iload_n C dL_law_1288 rfl 3 rfl ?_
        refine rw_iconst (c := 2) C dL_law_1289 ci_2 ?_
        refine rw_iadd C dL_law_1290 ?_
        refine rw_ldS hX hbz C dL_law_1291 (fun x200 => ?_)
        refine rw_aload_n C dL_law_1292 rfl 0 rfl ?_
        refine rw_iload_n C dL_law_1293 rfl 3 rfl ?_
        refine rw_iconst (c := 3) C dL_law_1294 ci_3 ?_
        refine rw_iadd C dL_law_1295 ?_
        refine rw_ldS hX hbz C dL_law_1296 (fun x201 => ?_)
        refine rw_aload_n C dL_law_1297 rfl 0 rfl ?_
        refine rw_iload_n C dL_law_1298 rfl 3 rfl ?_
        refine rw_iconst (c := 4) C dL_law_1299 ci_4 ?_
        refine rw_iadd C dL_law_1300 ?_
        refine rw_ldS hX hbz C dL_law_1301 (fun x202 => ?_)
        refine rw_aload_n C dL_law_1302 rfl 0 rfl ?_
        refine rw_iload_n C dL_law_1303 rfl 3 rfl ?_
        refine rw_iconst (c := 5) C dL_law_1304 ci_5 ?_
        refine rw_iadd C dL_law_1305 ?_
        refine rw_ldS hX hbz C dL_law_1306 (fun x203 => ?_)
        refine rw_callLi (As := [.int x199, .int x200, .int x201, .int x202, .int x203]) (k0 := 196) C (by rw [hR]; decide) dL_law_1307 cv_L_156 (k_X9_copy g.2.1 κ x199 x200 x201 x202 x203 M71) (by decide) (by decide) sh_196 rfl rfl (Nat.le_of_ble_eq_true rfl) rfl (fun x204 M72 => ?_)
        refine rw_icmp_eq (tgt := 1408) C dL_law_1310 (by decide) ?_ ?_
        · refine rw_iinc (c := 7) (lv' := [(3, .int (x1 + 7)), (0, .ref b), (1, .ref (κ.1 + 0)), (2, .ref (κ.1 + 196))]) C dL_law_1408 3 rfl (by decide) (by decide) rfl ?_
          refine rw_goto (tgt := 18) C dL_law_1411 (by decide) ?_
          exact rw_lv [1, 2, 3, 0] rfl (hrec1 (x1 + 7) M72)
        · refine rw_iconst (c := 0) C dL_law_1313 ci_0 ?_
          exact rw_law0
      · show pv_R g κ pv_T pv_RF 4 600000 7302250 (pv_QL g b) 1315 [(0, .ref b), (1, .ref (κ.1 + 0)), (2, .ref (κ.1 + 196)), (3, .int x1)] [] M5 (law_c34 L xs x1 M5 rec1)
        unfold law_c34
        refine rw_aload_n C dL_law_1315 rfl 1 rfl ?_
        refine rw_aload_n C dL_law_1316 rfl 0 rfl ?_
        refine rw_iload_n C dL_law_1317 rfl 3 rfl ?_
        refine rw_iconst (c := 1) C dL_law_1318 ci_1 ?_
        refine rw_iadd C dL_law_1319 ?_
        refine rw_ldS hX hbz C dL_law_1320 (fun x205 => ?_)
        refine rw_callLi (As := [.int x205]) (k0 := 0) C (by rw [hR]; decide) dL_law_1321 cv_L_157 (k_X8_read g.2.1 κ x205 M5) (by decide) (by decide) sh_0 rfl rfl (Nat.le_of_ble_eq_true rfl) rfl (fun x206 M73 => ?_)
        refine rw_aload_n C dL_law_1324 rfl 2 rfl ?_
        refine rw_aload_n C dL_law_1325 rfl 0 rfl ?_
        refine rw_iload_n C dL_law_1326 rfl 3 rfl ?_
        refine rw_iconst (c := 1) C dL_law_1327 ci_1 ?_
        refine rw_iadd C dL_law_1328 ?_
        refine rw_ldS hX hbz C dL_law_1329 (fun x207 => ?_)
        refine rw_callLi (As := [.int x207]) (k0 := 196) C (by rw [hR]; decide) dL_law_1330 cv_L_160 (k_X9_read g.2.1 κ x207 M73) (by decide) (by decide) sh_196 rfl rfl (Nat.le_of_ble_eq_true rfl) rfl (fun x208 M74 => ?_)
        refine rw_icmp_eq (tgt := 1408) C dL_law_1333 (by decide) ?_ ?_
        · refine rw_iinc (c := 7) (lv' := [(3, .int (x1 + 7)), (0, .ref b), (1, .ref (κ.1 + 0)), (2, .ref (κ.1 + 196))]) C dL_law_1408 3 rfl (by decide) (by decide) rfl ?_
          refine rw_goto (tgt := 18) C dL_law_1411 (by decide) ?_
          exact rw_lv [1, 2, 3, 0] rfl (hrec1 (x1 + 7) M74)
        · refine rw_iconst (c := 0) C dL_law_1336 ci_0 ?_
          exact rw_law0
      · show pv_R g κ pv_T pv_RF 4 600000 7302250 (pv_QL g b) 1338 [(0, .ref b), (1, .ref (κ.1 + 0)), (2, .ref (κ.1 + 196)), (3, .int x1)] [] M5 (law_c35 L xs x1 M5 rec1)
        unfold law_c35
        refine rw_aload_n C dL_law_1338 rfl 1 rfl ?_
        refine rw_aload_n C dL_law_1339 rfl 0 rfl ?_
        refine rw_iload_n C dL_law_1340 rfl 3 rfl ?_
        refine rw_iconst (c := 1) C dL_law_1341 ci_1 ?_
        refine rw_iadd C dL_law_1342 ?_
        refine rw_ldS hX hbz C dL_law_1343 (fun x209 => ?_)
        refine rw_aload_n C dL_law_1344 rfl 0 rfl ?_
        refine rw_iload_n C dL_law_1345 rfl 3 rfl ?_
        refine rw_iconst (c := 2) C dL_law_1346 ci_2 ?_
        refine rw_iadd C dL_law_1347 ?_
        refine rw_ldS hX hbz C dL_law_1348 (fun x210 => ?_)
        refine rw_callLi (As := [.int x209, .int x210]) (k0 := 0) C (by rw [hR]; decide) dL_law_1349 cv_L_161 (k_X8_write g.2.1 κ x209 x210 M5) (by decide) (by decide) sh_0 rfl rfl (Nat.le_of_ble_eq_true rfl) rfl (fun x211 M75 => ?_)
        refine rw_aload_n C dL_law_1352 rfl 2 rfl ?_
        refine rw_aload_n C dL_law_1353 rfl 0 rfl ?_
        refine rw_iload_n C dL_law_1354 rfl 3 rfl ?_
        refine rw_iconst (c := 1) C dL_law_1355 ci_1 ?_
        refine rw_iadd C dL_law_1356 ?_
        refine rw_ldS hX hbz C dL_law_1357 (fun x212 => ?_)
        refine rw_aload_n C dL_law_1358 rfl 0 rfl ?_
        refine rw_iload_n C dL_law_1359 rfl 3 rfl ?_
        refine rw_iconst (c := 2) C dL_law_1360 ci_2 ?_
        refine rw_iadd C dL_law_1361 ?_
        refine rw_ldS hX hbz C dL_law_1362 (fun x213 => ?_)
        refine rw_callLi (As := [.int x212, .int x213]) (k0 := 196) C (by rw [hR]; decide) dL_law_1363 cv_L_164 (k_X9_write g.2.1 κ x212 x213 M75) (by decide) (by decide) sh_196 rfl rfl (Nat.le_of_ble_eq_true rfl) rfl (fun x214 M76 => ?_)
        refine rw_icmp_eq (tgt := 1408) C dL_law_1366 (by decide) ?_ ?_
        · refine rw_iinc (c := 7) (lv' := [(3, .int (x1 + 7)), (0, .ref b), (1, .ref (κ.1 + 0)), (2, .ref (κ.1 + 196))]) C dL_law_1408 3 rfl (by decide) (by decide) rfl ?_
          refine rw_goto (tgt := 18) C dL_law_1411 (by decide) ?_
          exact rw_lv [1, 2, 3, 0] rfl (hrec1 (x1 + 7) M76)
        · refine rw_iconst (c := 0) C dL_law_1369 ci_0 ?_
          exact rw_law0
      · show pv_R g κ pv_T pv_RF 4 600000 7302250 (pv_QL g b) 1371 [(0, .ref b), (1, .ref (κ.1 + 0)), (2, .ref (κ.1 + 196)), (3, .int x1)] [] M5 (law_c36 L xs x1 M5 rec1)
        unfold law_c36
        refine rw_aload_n C dL_law_1371 rfl 1 rfl ?_
        refine rw_aload_n C dL_law_1372 rfl 0 rfl ?_
        refine rw_iload_n C dL_law_1373 rfl 3 rfl ?_
        refine rw_iconst (c := 1) C dL_law_1374 ci_1 ?_
        refine rw_iadd C dL_law_1375 ?_
        refine rw_ldS hX hbz C dL_law_1376 (fun x215 => ?_)
        refine rw_callLPi (As := [.int x215]) (k0 := 0) C (by rw [hR]; decide) dL_law_1377 cv_L_165 (k_X8_count g.2.1 κ x215 M5) (by decide) (by decide) sh_0 rfl rfl (Nat.le_of_ble_eq_true rfl) rfl (fun x216 => ?_)
        refine rw_aload_n C dL_law_1380 rfl 2 rfl ?_
        refine rw_aload_n C dL_law_1381 rfl 0 rfl ?_
        refine rw_iload_n C dL_law_1382 rfl 3 rfl ?_
        refine rw_iconst (c := 1) C dL_law_1383 ci_1 ?_
        refine rw_iadd C dL_law_1384 ?_
        refine rw_ldS hX hbz C dL_law_1385 (fun x217 => ?_)
        refine rw_callLi (As := [.int x217]) (k0 := 196) C (by rw [hR]; decide) dL_law_1386 cv_L_168 (k_X9_count g.2.1 κ x217 M5) (by decide) (by decide) sh_196 rfl rfl (Nat.le_of_ble_eq_true rfl) rfl (fun x218 M77 => ?_)
        refine rw_icmp_eq (tgt := 1408) C dL_law_1389 (by decide) ?_ ?_
        · refine rw_iinc (c := 7) (lv' := [(3, .int (x1 + 7)), (0, .ref b), (1, .ref (κ.1 + 0)), (2, .ref (κ.1 + 196))]) C dL_law_1408 3 rfl (by decide) (by decide) rfl ?_
          refine rw_goto (tgt := 18) C dL_law_1411 (by decide) ?_
          exact rw_lv [1, 2, 3, 0] rfl (hrec1 (x1 + 7) M77)
        · refine rw_iconst (c := 0) C dL_law_1392 ci_0 ?_
          exact rw_law0
      · show pv_R g κ pv_T pv_RF 4 600000 7302250 (pv_QL g b) 1394 [(0, .ref b), (1, .ref (κ.1 + 0)), (2, .ref (κ.1 + 196)), (3, .int x1)] [] M5 (law_c37 M5 rec1 x1)
        unfold law_c37
        refine rw_aload_n C dL_law_1394 rfl 1 rfl ?_
        refine rw_callLl (As := []) (k0 := 0) C (by rw [hR]; decide) dL_law_1395 cv_L_169 (k_X8_digest g.2.1 κ M5) (by decide) (by decide) sh_0 rfl rfl (Nat.le_of_ble_eq_true rfl) rfl (fun x219 M78 => ?_)
        refine rw_aload_n C dL_law_1398 rfl 2 rfl ?_
        refine rw_callLl (As := []) (k0 := 196) C (by rw [hR]; decide) dL_law_1399 cv_L_173 (k_X9_digest g.2.1 κ M78) (by decide) (by decide) sh_196 rfl rfl (Nat.le_of_ble_eq_true rfl) rfl (fun x220 M79 => ?_)
        refine rw_lcmp C dL_law_1402 ?_
        refine rw_if_eq (tgt := 1408) C dL_law_1403 (by decide) ?_ ?_
        · refine rw_iinc (c := 7) (lv' := [(3, .int (x1 + 7)), (0, .ref b), (1, .ref (κ.1 + 0)), (2, .ref (κ.1 + 196))]) C dL_law_1408 3 rfl (by decide) (by decide) rfl ?_
          refine rw_goto (tgt := 18) C dL_law_1411 (by decide) ?_
          exact rw_lv [1, 2, 3, 0] rfl (hrec1 (x1 + 7) M79)
        · refine rw_iconst (c := 0) C dL_law_1406 ci_0 ?_
          exact rw_law0
    · show pv_R g κ pv_T pv_RF 4 600000 7302250 (pv_QL g b) 1408 [(0, .ref b), (1, .ref (κ.1 + 0)), (2, .ref (κ.1 + 196)), (3, .int x1)] [] M5 (rec1 (x1 + 7) M5)
      refine rw_iinc (c := 7) (lv' := [(3, .int (x1 + 7)), (0, .ref b), (1, .ref (κ.1 + 0)), (2, .ref (κ.1 + 196))]) C dL_law_1408 3 rfl (by decide) (by decide) rfl ?_
      refine rw_goto (tgt := 18) C dL_law_1411 (by decide) ?_
      exact rw_lv [1, 2, 3, 0] rfl (hrec1 (x1 + 7) M5)
