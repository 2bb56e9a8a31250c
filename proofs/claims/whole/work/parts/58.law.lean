theorem g_Law_law_18 {h : am_H} {x3 : Int} {b : Nat} {L : Int} {P : Int → am_H → Prop} (H : ((((h 1000 1).toNat : Int) = L) ∧ am_ok (L - 6)) ∧ ((L - 6 < x3 → P 1 h) ∧ (x3 ≤ L - 6 → ((0 ≤ x3 ∧ x3 < L) ∧ ((am_and (h 2000 x3) 63 = 0 → ((am_ok (x3 + 1) ∧ (0 ≤ x3 + 1 ∧ x3 + 1 < L) ∧ am_ok (x3 + 2) ∧ (0 ≤ x3 + 2 ∧ x3 + 2 < L)) ∧ (∃ a11 h10, am_cd 17 154 [.inr (.inr 0), .inl (h 2000 (1 + x3)), .inl (h 2000 (2 + x3))] h (some (.inl a11)) h10 ∧ ((((h10 1000 1).toNat : Int) = L) ∧ (∃ a15 h14, am_cd 17 119 [.inr (.inr 56), .inl (h10 2000 (1 + x3)), .inl (h10 2000 (2 + x3))] h10 (some (.inl a15)) h14 ∧ ((a11 = a15 → ((am_ok (x3 + 6)) ∧ am_x (am_cd 17) 231 (am_qi P) (b + 1) 18 [some (.inr (.inr 2000)), some (.inr (.inr 0)), some (.inr (.inr 56)), some (.inl (x3 + 6))] [] h14)) ∧ (a11 ≠ a15 → P 0 h14))))))) ∧ (am_and (h 2000 x3) 63 ≠ 0 → ((am_and (h 2000 x3) 63 = 1 → ((am_ok (x3 + 1) ∧ (0 ≤ x3 + 1 ∧ x3 + 1 < L) ∧ am_ok (x3 + 2) ∧ (0 ≤ x3 + 2 ∧ x3 + 2 < L) ∧ am_ok (x3 + 3) ∧ (0 ≤ x3 + 3 ∧ x3 + 3 < L)) ∧ (∃ a27 h26, am_cd 17 155 [.inr (.inr 0), .inl (h 2000 (1 + x3)), .inl (h 2000 (2 + x3)), .inl (h 2000 (3 + x3))] h (some (.inl a27)) h26 ∧ ((((h26 1000 1).toNat : Int) = L) ∧ (∃ a31 h30, am_cd 17 161 [.inr (.inr 56), .inl (h26 2000 (1 + x3)), .inl (h26 2000 (2 + x3)), .inl (h26 2000 (3 + x3))] h26 (some (.inl a31)) h30 ∧ ((a27 = a31 → ((am_ok (x3 + 6)) ∧ am_x (am_cd 17) 231 (am_qi P) (b + 1) 18 [some (.inr (.inr 2000)), some (.inr (.inr 0)), some (.inr (.inr 56)), some (.inl (x3 + 6))] [] h30)) ∧ (a27 ≠ a31 → P 0 h30))))))) ∧ (am_and (h 2000 x3) 63 ≠ 1 → ((am_and (h 2000 x3) 63 = 2 → ((am_ok (x3 + 1) ∧ (0 ≤ x3 + 1 ∧ x3 + 1 < L) ∧ am_ok (x3 + 2) ∧ (0 ≤ x3 + 2 ∧ x3 + 2 < L)) ∧ (∃ a41 h40, am_cd 17 208 [.inr (.inr 0), .inl (h 2000 (1 + x3)), .inl (h 2000 (2 + x3))] h (some (.inl a41)) h40 ∧ ((((h40 1000 1).toNat : Int) = L) ∧ (∃ a45 h44, am_cd 17 162 [.inr (.inr 56), .inl (h40 2000 (1 + x3)), .inl (h40 2000 (2 + x3))] h40 (some (.inl a45)) h44 ∧ ((a41 = a45 → ((am_ok (x3 + 6)) ∧ am_x (am_cd 17) 231 (am_qi P) (b + 1) 18 [some (.inr (.inr 2000)), some (.inr (.inr 0)), some (.inr (.inr 56)), some (.inl (x3 + 6))] [] h44)) ∧ (a41 ≠ a45 → P 0 h44))))))) ∧ (am_and (h 2000 x3) 63 ≠ 2 → ((am_and (h 2000 x3) 63 = 3 → ((am_ok (x3 + 1) ∧ (0 ≤ x3 + 1 ∧ x3 + 1 < L)) ∧ (∃ a53 h52, am_cd 17 156 [.inr (.inr 0), .inl (h 2000 (1 + x3))] h (some (.inl a53)) h52 ∧ ((((h52 1000 1).toNat : Int) = L) ∧ (∃ a57 h56, am_cd 17 121 [.inr (.inr 56), .inl (h52 2000 (1 + x3))] h52 (some (.inl a57)) h56 ∧ ((a53 = a57 → ((am_ok (x3 + 6)) ∧ am_x (am_cd 17) 231 (am_qi P) (b + 1) 18 [some (.inr (.inr 2000)), some (.inr (.inr 0)), some (.inr (.inr 56)), some (.inl (x3 + 6))] [] h56)) ∧ (a53 ≠ a57 → P 0 h56))))))) ∧ (am_and (h 2000 x3) 63 ≠ 3 → ((am_and (h 2000 x3) 63 = 4 → ((am_ok (x3 + 1) ∧ (0 ≤ x3 + 1 ∧ x3 + 1 < L) ∧ am_ok (x3 + 2) ∧ (0 ≤ x3 + 2 ∧ x3 + 2 < L) ∧ am_ok (x3 + 3) ∧ (0 ≤ x3 + 3 ∧ x3 + 3 < L)) ∧ (∃ a69 h68, am_cd 17 157 [.inr (.inr 0), .inl (h 2000 (1 + x3)), .inl (h 2000 (2 + x3)), .inl (h 2000 (3 + x3))] h (some (.inl a69)) h68 ∧ ((((h68 1000 1).toNat : Int) = L) ∧ (∃ a73 h72, am_cd 17 163 [.inr (.inr 56), .inl (h68 2000 (1 + x3)), .inl (h68 2000 (2 + x3)), .inl (h68 2000 (3 + x3))] h68 (some (.inl a73)) h72 ∧ ((a69 = a73 → ((am_ok (x3 + 6)) ∧ am_x (am_cd 17) 231 (am_qi P) (b + 1) 18 [some (.inr (.inr 2000)), some (.inr (.inr 0)), some (.inr (.inr 56)), some (.inl (x3 + 6))] [] h72)) ∧ (a69 ≠ a73 → P 0 h72))))))) ∧ (am_and (h 2000 x3) 63 ≠ 4 → ((am_and (h 2000 x3) 63 = 5 → ((am_ok (x3 + 1) ∧ (0 ≤ x3 + 1 ∧ x3 + 1 < L) ∧ am_ok (x3 + 2) ∧ (0 ≤ x3 + 2 ∧ x3 + 2 < L)) ∧ (∃ a83 h82, am_cd 17 106 [.inr (.inr 0), .inl (h 2000 (1 + x3)), .inl (h 2000 (2 + x3))] h (some (.inl a83)) h82 ∧ ((((h82 1000 1).toNat : Int) = L) ∧ (∃ a87 h86, am_cd 17 122 [.inr (.inr 56), .inl (h82 2000 (1 + x3)), .inl (h82 2000 (2 + x3))] h82 (some (.inl a87)) h86 ∧ ((a83 = a87 → ((am_ok (x3 + 6)) ∧ am_x (am_cd 17) 231 (am_qi P) (b + 1) 18 [some (.inr (.inr 2000)), some (.inr (.inr 0)), some (.inr (.inr 56)), some (.inl (x3 + 6))] [] h86)) ∧ (a83 ≠ a87 → P 0 h86))))))) ∧ (am_and (h 2000 x3) 63 ≠ 5 → ((am_and (h 2000 x3) 63 = 6 → ((am_ok (x3 + 1) ∧ (0 ≤ x3 + 1 ∧ x3 + 1 < L) ∧ am_ok (x3 + 2) ∧ (0 ≤ x3 + 2 ∧ x3 + 2 < L) ∧ am_ok (x3 + 3) ∧ (0 ≤ x3 + 3 ∧ x3 + 3 < L)) ∧ (∃ a99 h98, am_cd 17 209 [.inr (.inr 0), .inl (h 2000 (1 + x3)), .inr (.inl ((am_lshl (Int64.ofInt (h 2000 (2 + x3))) 32) ||| ((Int64.ofInt (h 2000 (3 + x3))) &&& (Int64.ofInt 4294967295))))] h (some (.inl a99)) h98 ∧ ((((h98 1000 1).toNat : Int) = L) ∧ (∃ a103 h102, am_cd 17 123 [.inr (.inr 56), .inl (h98 2000 (1 + x3)), .inr (.inl ((am_lshl (Int64.ofInt (h98 2000 (2 + x3))) 32) ||| ((Int64.ofInt (h98 2000 (3 + x3))) &&& (Int64.ofInt 4294967295))))] h98 (some (.inl a103)) h102 ∧ ((a99 = a103 → ((am_ok (x3 + 6)) ∧ am_x (am_cd 17) 231 (am_qi P) (b + 1) 18 [some (.inr (.inr 2000)), some (.inr (.inr 0)), some (.inr (.inr 56)), some (.inl (x3 + 6))] [] h102)) ∧ (a99 ≠ a103 → P 0 h102))))))) ∧ (am_and (h 2000 x3) 63 ≠ 6 → ((am_and (h 2000 x3) 63 = 7 → ((am_ok (x3 + 1) ∧ (0 ≤ x3 + 1 ∧ x3 + 1 < L) ∧ am_ok (x3 + 2) ∧ (0 ≤ x3 + 2 ∧ x3 + 2 < L)) ∧ (∃ a113 h112, am_cd 17 107 [.inr (.inr 0), .inl (h 2000 (1 + x3)), .inl (h 2000 (2 + x3))] h (some (.inl a113)) h112 ∧ ((((h112 1000 1).toNat : Int) = L) ∧ (∃ a117 h116, am_cd 17 164 [.inr (.inr 56), .inl (h112 2000 (1 + x3)), .inl (h112 2000 (2 + x3))] h112 (some (.inl a117)) h116 ∧ ((a113 = a117 → ((am_ok (x3 + 6)) ∧ am_x (am_cd 17) 231 (am_qi P) (b + 1) 18 [some (.inr (.inr 2000)), some (.inr (.inr 0)), some (.inr (.inr 56)), some (.inl (x3 + 6))] [] h116)) ∧ (a113 ≠ a117 → P 0 h116))))))) ∧ (am_and (h 2000 x3) 63 ≠ 7 → ((am_and (h 2000 x3) 63 = 8 → ((am_ok (x3 + 1) ∧ (0 ≤ x3 + 1 ∧ x3 + 1 < L) ∧ am_ok (x3 + 2) ∧ (0 ≤ x3 + 2 ∧ x3 + 2 < L)) ∧ (∃ a127 h126, am_cd 17 184 [.inr (.inr 0), .inl (h 2000 (1 + x3)), .inl (h 2000 (2 + x3))] h (some (.inl a127)) h126 ∧ ((((h126 1000 1).toNat : Int) = L) ∧ (∃ a131 h130, am_cd 17 165 [.inr (.inr 56), .inl (h126 2000 (1 + x3)), .inl (h126 2000 (2 + x3))] h126 (some (.inl a131)) h130 ∧ ((a127 = a131 → ((am_ok (x3 + 6)) ∧ am_x (am_cd 17) 231 (am_qi P) (b + 1) 18 [some (.inr (.inr 2000)), some (.inr (.inr 0)), some (.inr (.inr 56)), some (.inl (x3 + 6))] [] h130)) ∧ (a127 ≠ a131 → P 0 h130))))))) ∧ (am_and (h 2000 x3) 63 ≠ 8 → ((am_and (h 2000 x3) 63 = 9 → ((am_ok (x3 + 1) ∧ (0 ≤ x3 + 1 ∧ x3 + 1 < L) ∧ am_ok (x3 + 2) ∧ (0 ≤ x3 + 2 ∧ x3 + 2 < L) ∧ am_ok (x3 + 3) ∧ (0 ≤ x3 + 3 ∧ x3 + 3 < L)) ∧ (∃ a143 h142, am_cd 17 158 [.inr (.inr 0), .inl (h 2000 (1 + x3)), .inl (h 2000 (2 + x3)), .inl (h 2000 (3 + x3))] h (some (.inl a143)) h142 ∧ ((((h142 1000 1).toNat : Int) = L) ∧ (∃ a147 h146, am_cd 17 166 [.inr (.inr 56), .inl (h142 2000 (1 + x3)), .inl (h142 2000 (2 + x3)), .inl (h142 2000 (3 + x3))] h142 (some (.inl a147)) h146 ∧ ((a143 = a147 → ((am_ok (x3 + 6)) ∧ am_x (am_cd 17) 231 (am_qi P) (b + 1) 18 [some (.inr (.inr 2000)), some (.inr (.inr 0)), some (.inr (.inr 56)), some (.inl (x3 + 6))] [] h146)) ∧ (a143 ≠ a147 → P 0 h146))))))) ∧ (am_and (h 2000 x3) 63 ≠ 9 → ((am_and (h 2000 x3) 63 = 10 → ((am_ok (x3 + 1) ∧ (0 ≤ x3 + 1 ∧ x3 + 1 < L)) ∧ (∃ a155 h154, am_cd 17 159 [.inr (.inr 0), .inl (h 2000 (1 + x3))] h (some (.inl a155)) h154 ∧ ((((h154 1000 1).toNat : Int) = L) ∧ (∃ a159 h158, am_cd 17 125 [.inr (.inr 56), .inl (h154 2000 (1 + x3))] h154 (some (.inl a159)) h158 ∧ ((a155 = a159 → ((am_ok (x3 + 6)) ∧ am_x (am_cd 17) 231 (am_qi P) (b + 1) 18 [some (.inr (.inr 2000)), some (.inr (.inr 0)), some (.inr (.inr 56)), some (.inl (x3 + 6))] [] h158)) ∧ (a155 ≠ a159 → P 0 h158))))))) ∧ (am_and (h 2000 x3) 63 ≠ 10 → ((am_and (h 2000 x3) 63 = 11 → ((am_ok (x3 + 1) ∧ (0 ≤ x3 + 1 ∧ x3 + 1 < L) ∧ am_ok (x3 + 2) ∧ (0 ≤ x3 + 2 ∧ x3 + 2 < L)) ∧ (∃ a169 h168, am_cd 17 108 [.inr (.inr 0), .inl (h 2000 (1 + x3)), .inl (h 2000 (2 + x3))] h (some (.inl a169)) h168 ∧ ((((h168 1000 1).toNat : Int) = L) ∧ (∃ a173 h172, am_cd 17 126 [.inr (.inr 56), .inl (h168 2000 (1 + x3)), .inl (h168 2000 (2 + x3))] h168 (some (.inl a173)) h172 ∧ ((a169 = a173 → ((am_ok (x3 + 6)) ∧ am_x (am_cd 17) 231 (am_qi P) (b + 1) 18 [some (.inr (.inr 2000)), some (.inr (.inr 0)), some (.inr (.inr 56)), some (.inl (x3 + 6))] [] h172)) ∧ (a169 ≠ a173 → P 0 h172))))))) ∧ (am_and (h 2000 x3) 63 ≠ 11 → ((am_and (h 2000 x3) 63 = 12 → ((am_ok (x3 + 1) ∧ (0 ≤ x3 + 1 ∧ x3 + 1 < L) ∧ am_ok (x3 + 2) ∧ (0 ≤ x3 + 2 ∧ x3 + 2 < L) ∧ am_ok (x3 + 3) ∧ (0 ≤ x3 + 3 ∧ x3 + 3 < L)) ∧ (∃ a185 h184, am_cd 17 185 [.inr (.inr 0), .inl (h 2000 (1 + x3)), .inl (h 2000 (2 + x3)), .inl (h 2000 (3 + x3))] h (some (.inl a185)) h184 ∧ ((((h184 1000 1).toNat : Int) = L) ∧ (∃ a189 h188, am_cd 17 190 [.inr (.inr 56), .inl (h184 2000 (1 + x3)), .inl (h184 2000 (2 + x3)), .inl (h184 2000 (3 + x3))] h184 (some (.inl a189)) h188 ∧ ((a185 = a189 → ((am_ok (x3 + 6)) ∧ am_x (am_cd 17) 231 (am_qi P) (b + 1) 18 [some (.inr (.inr 2000)), some (.inr (.inr 0)), some (.inr (.inr 56)), some (.inl (x3 + 6))] [] h188)) ∧ (a185 ≠ a189 → P 0 h188))))))) ∧ (am_and (h 2000 x3) 63 ≠ 12 → ((am_and (h 2000 x3) 63 = 13 → ((am_ok (x3 + 1) ∧ (0 ≤ x3 + 1 ∧ x3 + 1 < L) ∧ am_ok (x3 + 2) ∧ (0 ≤ x3 + 2 ∧ x3 + 2 < L) ∧ am_ok (x3 + 3) ∧ (0 ≤ x3 + 3 ∧ x3 + 3 < L) ∧ am_ok (x3 + 4) ∧ (0 ≤ x3 + 4 ∧ x3 + 4 < L)) ∧ (∃ a203 h202, am_cd 17 186 [.inr (.inr 0), .inl (h 2000 (1 + x3)), .inl (h 2000 (2 + x3)), .inl (h 2000 (3 + x3)), .inl (h 2000 (4 + x3))] h (some (.inl a203)) h202 ∧ ((((h202 1000 1).toNat : Int) = L) ∧ (∃ a207 h206, am_cd 17 191 [.inr (.inr 56), .inl (h202 2000 (1 + x3)), .inl (h202 2000 (2 + x3)), .inl (h202 2000 (3 + x3)), .inl (h202 2000 (4 + x3))] h202 (some (.inl a207)) h206 ∧ ((a203 = a207 → ((am_ok (x3 + 6)) ∧ am_x (am_cd 17) 231 (am_qi P) (b + 1) 18 [some (.inr (.inr 2000)), some (.inr (.inr 0)), some (.inr (.inr 56)), some (.inl (x3 + 6))] [] h206)) ∧ (a203 ≠ a207 → P 0 h206))))))) ∧ (am_and (h 2000 x3) 63 ≠ 13 → ((am_and (h 2000 x3) 63 = 14 → ((am_ok (x3 + 1) ∧ (0 ≤ x3 + 1 ∧ x3 + 1 < L) ∧ am_ok (x3 + 2) ∧ (0 ≤ x3 + 2 ∧ x3 + 2 < L) ∧ am_ok (x3 + 3) ∧ (0 ≤ x3 + 3 ∧ x3 + 3 < L)) ∧ (∃ a219 h218, am_cd 17 109 [.inr (.inr 0), .inl (h 2000 (1 + x3)), .inr (.inl ((am_lshl (Int64.ofInt (h 2000 (2 + x3))) 32) ||| ((Int64.ofInt (h 2000 (3 + x3))) &&& (Int64.ofInt 4294967295))))] h (some (.inl a219)) h218 ∧ ((((h218 1000 1).toNat : Int) = L) ∧ (∃ a223 h222, am_cd 17 128 [.inr (.inr 56), .inl (h218 2000 (1 + x3)), .inr (.inl ((am_lshl (Int64.ofInt (h218 2000 (2 + x3))) 32) ||| ((Int64.ofInt (h218 2000 (3 + x3))) &&& (Int64.ofInt 4294967295))))] h218 (some (.inl a223)) h222 ∧ ((a219 = a223 → ((am_ok (x3 + 6)) ∧ am_x (am_cd 17) 231 (am_qi P) (b + 1) 18 [some (.inr (.inr 2000)), some (.inr (.inr 0)), some (.inr (.inr 56)), some (.inl (x3 + 6))] [] h222)) ∧ (a219 ≠ a223 → P 0 h222))))))) ∧ (am_and (h 2000 x3) 63 ≠ 14 → ((am_and (h 2000 x3) 63 = 15 → ((am_ok (x3 + 1) ∧ (0 ≤ x3 + 1 ∧ x3 + 1 < L)) ∧ (∃ a231 h230, am_cd 17 210 [.inr (.inr 0), .inl (h 2000 (1 + x3))] h (some (.inl a231)) h230 ∧ ((((h230 1000 1).toNat : Int) = L) ∧ (∃ a235 h234, am_cd 17 192 [.inr (.inr 56), .inl (h230 2000 (1 + x3))] h230 (some (.inl a235)) h234 ∧ ((a231 = a235 → ((am_ok (x3 + 6)) ∧ am_x (am_cd 17) 231 (am_qi P) (b + 1) 18 [some (.inr (.inr 2000)), some (.inr (.inr 0)), some (.inr (.inr 56)), some (.inl (x3 + 6))] [] h234)) ∧ (a231 ≠ a235 → P 0 h234))))))) ∧ (am_and (h 2000 x3) 63 ≠ 15 → ((am_and (h 2000 x3) 63 = 16 → ((am_ok (x3 + 1) ∧ (0 ≤ x3 + 1 ∧ x3 + 1 < L)) ∧ (∃ a243 h242, am_cd 17 110 [.inr (.inr 0), .inl (h 2000 (1 + x3))] h (some (.inl a243)) h242 ∧ ((((h242 1000 1).toNat : Int) = L) ∧ (∃ a247 h246, am_cd 17 130 [.inr (.inr 56), .inl (h242 2000 (1 + x3))] h242 (some (.inl a247)) h246 ∧ ((a243 = a247 → ((am_ok (x3 + 6)) ∧ am_x (am_cd 17) 231 (am_qi P) (b + 1) 18 [some (.inr (.inr 2000)), some (.inr (.inr 0)), some (.inr (.inr 56)), some (.inl (x3 + 6))] [] h246)) ∧ (a243 ≠ a247 → P 0 h246))))))) ∧ (am_and (h 2000 x3) 63 ≠ 16 → ((am_and (h 2000 x3) 63 = 17 → ((am_ok (x3 + 1) ∧ (0 ≤ x3 + 1 ∧ x3 + 1 < L) ∧ am_ok (x3 + 2) ∧ (0 ≤ x3 + 2 ∧ x3 + 2 < L) ∧ am_ok (x3 + 3) ∧ (0 ≤ x3 + 3 ∧ x3 + 3 < L)) ∧ (∃ a259 h258, am_cd 17 187 [.inr (.inr 0), .inl (h 2000 (1 + x3)), .inl (h 2000 (2 + x3)), .inl (h 2000 (3 + x3))] h (some (.inl a259)) h258 ∧ ((((h258 1000 1).toNat : Int) = L) ∧ (∃ a263 h262, am_cd 17 193 [.inr (.inr 56), .inl (h258 2000 (1 + x3)), .inl (h258 2000 (2 + x3)), .inl (h258 2000 (3 + x3))] h258 (some (.inl a263)) h262 ∧ ((a259 = a263 → ((am_ok (x3 + 6)) ∧ am_x (am_cd 17) 231 (am_qi P) (b + 1) 18 [some (.inr (.inr 2000)), some (.inr (.inr 0)), some (.inr (.inr 56)), some (.inl (x3 + 6))] [] h262)) ∧ (a259 ≠ a263 → P 0 h262))))))) ∧ (am_and (h 2000 x3) 63 ≠ 17 → ((am_and (h 2000 x3) 63 = 18 → ((am_ok (x3 + 1) ∧ (0 ≤ x3 + 1 ∧ x3 + 1 < L) ∧ am_ok (x3 + 2) ∧ (0 ≤ x3 + 2 ∧ x3 + 2 < L) ∧ am_ok (x3 + 3) ∧ (0 ≤ x3 + 3 ∧ x3 + 3 < L)) ∧ (∃ a275 h274, am_cd 17 211 [.inr (.inr 0), .inl (h 2000 (1 + x3)), .inl (h 2000 (2 + x3)), .inl (h 2000 (3 + x3))] h (some (.inl a275)) h274 ∧ ((((h274 1000 1).toNat : Int) = L) ∧ (∃ a279 h278, am_cd 17 194 [.inr (.inr 56), .inl (h274 2000 (1 + x3)), .inl (h274 2000 (2 + x3)), .inl (h274 2000 (3 + x3))] h274 (some (.inl a279)) h278 ∧ ((a275 = a279 → ((am_ok (x3 + 6)) ∧ am_x (am_cd 17) 231 (am_qi P) (b + 1) 18 [some (.inr (.inr 2000)), some (.inr (.inr 0)), some (.inr (.inr 56)), some (.inl (x3 + 6))] [] h278)) ∧ (a275 ≠ a279 → P 0 h278))))))) ∧ (am_and (h 2000 x3) 63 ≠ 18 → ((am_and (h 2000 x3) 63 = 19 → ((am_ok (x3 + 1) ∧ (0 ≤ x3 + 1 ∧ x3 + 1 < L) ∧ am_ok (x3 + 2) ∧ (0 ≤ x3 + 2 ∧ x3 + 2 < L) ∧ am_ok (x3 + 3) ∧ (0 ≤ x3 + 3 ∧ x3 + 3 < L)) ∧ (∃ a291 h290, am_cd 17 212 [.inr (.inr 0), .inl (h 2000 (1 + x3)), .inl (h 2000 (2 + x3)), .inl (h 2000 (3 + x3))] h (some (.inl a291)) h290 ∧ ((((h290 1000 1).toNat : Int) = L) ∧ (∃ a295 h294, am_cd 17 195 [.inr (.inr 56), .inl (h290 2000 (1 + x3)), .inl (h290 2000 (2 + x3)), .inl (h290 2000 (3 + x3))] h290 (some (.inl a295)) h294 ∧ ((a291 = a295 → ((am_ok (x3 + 6)) ∧ am_x (am_cd 17) 231 (am_qi P) (b + 1) 18 [some (.inr (.inr 2000)), some (.inr (.inr 0)), some (.inr (.inr 56)), some (.inl (x3 + 6))] [] h294)) ∧ (a291 ≠ a295 → P 0 h294))))))) ∧ (am_and (h 2000 x3) 63 ≠ 19 → ((am_and (h 2000 x3) 63 = 20 → ((am_ok (x3 + 1) ∧ (0 ≤ x3 + 1 ∧ x3 + 1 < L) ∧ am_ok (x3 + 2) ∧ (0 ≤ x3 + 2 ∧ x3 + 2 < L) ∧ am_ok (x3 + 3) ∧ (0 ≤ x3 + 3 ∧ x3 + 3 < L) ∧ am_ok (x3 + 4) ∧ (0 ≤ x3 + 4 ∧ x3 + 4 < L)) ∧ (∃ a309 h308, am_cd 17 223 [.inr (.inr 0), .inl (h 2000 (1 + x3)), .inl (h 2000 (2 + x3)), .inl (h 2000 (3 + x3)), .inl (h 2000 (4 + x3))] h (some (.inl a309)) h308 ∧ ((((h308 1000 1).toNat : Int) = L) ∧ (∃ a313 h312, am_cd 17 196 [.inr (.inr 56), .inl (h308 2000 (1 + x3)), .inl (h308 2000 (2 + x3)), .inl (h308 2000 (3 + x3)), .inl (h308 2000 (4 + x3))] h308 (some (.inl a313)) h312 ∧ ((a309 = a313 → ((am_ok (x3 + 6)) ∧ am_x (am_cd 17) 231 (am_qi P) b 18 [some (.inr (.inr 2000)), some (.inr (.inr 0)), some (.inr (.inr 56)), some (.inl (x3 + 6))] [] h312)) ∧ (a309 ≠ a313 → P 0 h312))))))) ∧ (am_and (h 2000 x3) 63 ≠ 20 → ((am_and (h 2000 x3) 63 = 21 → ((am_ok (x3 + 1) ∧ (0 ≤ x3 + 1 ∧ x3 + 1 < L) ∧ am_ok (x3 + 2) ∧ (0 ≤ x3 + 2 ∧ x3 + 2 < L) ∧ am_ok (x3 + 3) ∧ (0 ≤ x3 + 3 ∧ x3 + 3 < L)) ∧ (∃ a325 h324, am_cd 17 224 [.inr (.inr 0), .inl (h 2000 (1 + x3)), .inl (h 2000 (2 + x3)), .inl (h 2000 (3 + x3))] h (some (.inl a325)) h324 ∧ ((((h324 1000 1).toNat : Int) = L) ∧ (∃ a329 h328, am_cd 17 217 [.inr (.inr 56), .inl (h324 2000 (1 + x3)), .inl (h324 2000 (2 + x3)), .inl (h324 2000 (3 + x3))] h324 (some (.inl a329)) h328 ∧ ((a325 = a329 → ((am_ok (x3 + 6)) ∧ am_x (am_cd 17) 231 (am_qi P) (b + 1) 18 [some (.inr (.inr 2000)), some (.inr (.inr 0)), some (.inr (.inr 56)), some (.inl (x3 + 6))] [] h328)) ∧ (a325 ≠ a329 → P 0 h328))))))) ∧ (am_and (h 2000 x3) 63 ≠ 21 → ((am_and (h 2000 x3) 63 = 22 → ((am_ok (x3 + 1) ∧ (0 ≤ x3 + 1 ∧ x3 + 1 < L) ∧ am_ok (x3 + 2) ∧ (0 ≤ x3 + 2 ∧ x3 + 2 < L)) ∧ (∃ a339 h338, am_cd 17 228 [.inr (.inr 0), .inl (h 2000 (1 + x3)), .inl (h 2000 (2 + x3))] h (some (.inl a339)) h338 ∧ ((((h338 1000 1).toNat : Int) = L) ∧ (∃ a343 h342, am_cd 17 218 [.inr (.inr 56), .inl (h338 2000 (1 + x3)), .inl (h338 2000 (2 + x3))] h338 (some (.inl a343)) h342 ∧ ((a339 = a343 → ((am_ok (x3 + 6)) ∧ am_x (am_cd 17) 231 (am_qi P) (b + 1) 18 [some (.inr (.inr 2000)), some (.inr (.inr 0)), some (.inr (.inr 56)), some (.inl (x3 + 6))] [] h342)) ∧ (a339 ≠ a343 → P 0 h342))))))) ∧ (am_and (h 2000 x3) 63 ≠ 22 → ((am_and (h 2000 x3) 63 = 23 → ((am_ok (x3 + 1) ∧ (0 ≤ x3 + 1 ∧ x3 + 1 < L) ∧ am_ok (x3 + 2) ∧ (0 ≤ x3 + 2 ∧ x3 + 2 < L)) ∧ (∃ a353 h352, am_cd 17 229 [.inr (.inr 0), .inl (h 2000 (1 + x3)), .inl (h 2000 (2 + x3))] h (some (.inl a353)) h352 ∧ ((((h352 1000 1).toNat : Int) = L) ∧ (∃ a357 h356, am_cd 17 219 [.inr (.inr 56), .inl (h352 2000 (1 + x3)), .inl (h352 2000 (2 + x3))] h352 (some (.inl a357)) h356 ∧ ((a353 = a357 → ((am_ok (x3 + 6)) ∧ am_x (am_cd 17) 231 (am_qi P) (b + 1) 18 [some (.inr (.inr 2000)), some (.inr (.inr 0)), some (.inr (.inr 56)), some (.inl (x3 + 6))] [] h356)) ∧ (a353 ≠ a357 → P 0 h356))))))) ∧ (am_and (h 2000 x3) 63 ≠ 23 → ((am_and (h 2000 x3) 63 = 24 → ((am_ok (x3 + 1) ∧ (0 ≤ x3 + 1 ∧ x3 + 1 < L)) ∧ (∃ a365 h364, am_cd 17 225 [.inr (.inr 0), .inl (h 2000 (1 + x3))] h (some (.inl a365)) h364 ∧ ((((h364 1000 1).toNat : Int) = L) ∧ (∃ a369 h368, am_cd 17 198 [.inr (.inr 56), .inl (h364 2000 (1 + x3))] h364 (some (.inl a369)) h368 ∧ ((a365 = a369 → ((am_ok (x3 + 6)) ∧ am_x (am_cd 17) 231 (am_qi P) (b + 1) 18 [some (.inr (.inr 2000)), some (.inr (.inr 0)), some (.inr (.inr 56)), some (.inl (x3 + 6))] [] h368)) ∧ (a365 ≠ a369 → P 0 h368))))))) ∧ (am_and (h 2000 x3) 63 ≠ 24 → ((am_and (h 2000 x3) 63 = 25 → ((am_ok (x3 + 1) ∧ (0 ≤ x3 + 1 ∧ x3 + 1 < L) ∧ am_ok (x3 + 2) ∧ (0 ≤ x3 + 2 ∧ x3 + 2 < L)) ∧ (∃ a379 h378, am_cd 17 226 [.inr (.inr 0), .inl (h 2000 (1 + x3)), .inl (h 2000 (2 + x3))] h (some (.inl a379)) h378 ∧ ((((h378 1000 1).toNat : Int) = L) ∧ (∃ a383 h382, am_cd 17 199 [.inr (.inr 56), .inl (h378 2000 (1 + x3)), .inl (h378 2000 (2 + x3))] h378 (some (.inl a383)) h382 ∧ ((a379 = a383 → ((am_ok (x3 + 6)) ∧ am_x (am_cd 17) 231 (am_qi P) (b + 1) 18 [some (.inr (.inr 2000)), some (.inr (.inr 0)), some (.inr (.inr 56)), some (.inl (x3 + 6))] [] h382)) ∧ (a379 ≠ a383 → P 0 h382))))))) ∧ (am_and (h 2000 x3) 63 ≠ 25 → ((am_and (h 2000 x3) 63 = 26 → ((am_ok (x3 + 1) ∧ (0 ≤ x3 + 1 ∧ x3 + 1 < L) ∧ am_ok (x3 + 2) ∧ (0 ≤ x3 + 2 ∧ x3 + 2 < L) ∧ am_ok (x3 + 3) ∧ (0 ≤ x3 + 3 ∧ x3 + 3 < L)) ∧ (∃ a395 h394, am_cd 17 230 [.inr (.inr 0), .inl (h 2000 (1 + x3)), .inl (h 2000 (2 + x3)), .inl (h 2000 (3 + x3))] h (some (.inl a395)) h394 ∧ ((((h394 1000 1).toNat : Int) = L) ∧ (∃ a399 h398, am_cd 17 170 [.inr (.inr 56), .inl (h394 2000 (1 + x3)), .inl (h394 2000 (2 + x3)), .inl (h394 2000 (3 + x3))] h394 (some (.inl a399)) h398 ∧ ((a395 = a399 → ((am_ok (x3 + 6)) ∧ am_x (am_cd 17) 231 (am_qi P) (b + 1) 18 [some (.inr (.inr 2000)), some (.inr (.inr 0)), some (.inr (.inr 56)), some (.inl (x3 + 6))] [] h398)) ∧ (a395 ≠ a399 → P 0 h398))))))) ∧ (am_and (h 2000 x3) 63 ≠ 26 → ((am_and (h 2000 x3) 63 = 27 → ((am_ok (x3 + 1) ∧ (0 ≤ x3 + 1 ∧ x3 + 1 < L) ∧ am_ok (x3 + 2) ∧ (0 ≤ x3 + 2 ∧ x3 + 2 < L)) ∧ (∃ a409 h408, am_cd 17 213 [.inr (.inr 0), .inl (h 2000 (1 + x3)), .inl (h 2000 (2 + x3))] h (some (.inl a409)) h408 ∧ ((((h408 1000 1).toNat : Int) = L) ∧ (∃ a413 h412, am_cd 17 200 [.inr (.inr 56), .inl (h408 2000 (1 + x3)), .inl (h408 2000 (2 + x3))] h408 (some (.inl a413)) h412 ∧ ((a409 = a413 → ((am_ok (x3 + 6)) ∧ am_x (am_cd 17) 231 (am_qi P) (b + 1) 18 [some (.inr (.inr 2000)), some (.inr (.inr 0)), some (.inr (.inr 56)), some (.inl (x3 + 6))] [] h412)) ∧ (a409 ≠ a413 → P 0 h412))))))) ∧ (am_and (h 2000 x3) 63 ≠ 27 → ((am_and (h 2000 x3) 63 = 28 → ((am_ok (x3 + 1) ∧ (0 ≤ x3 + 1 ∧ x3 + 1 < L)) ∧ (∃ a421 h420, am_cd 17 227 [.inr (.inr 0), .inl (h 2000 (1 + x3))] h (some (.inl a421)) h420 ∧ ((((h420 1000 1).toNat : Int) = L) ∧ (∃ a425 h424, am_cd 17 201 [.inr (.inr 56), .inl (h420 2000 (1 + x3))] h420 (some (.inl a425)) h424 ∧ ((a421 = a425 → ((am_ok (x3 + 6)) ∧ am_x (am_cd 17) 231 (am_qi P) (b + 1) 18 [some (.inr (.inr 2000)), some (.inr (.inr 0)), some (.inr (.inr 56)), some (.inl (x3 + 6))] [] h424)) ∧ (a421 ≠ a425 → P 0 h424))))))) ∧ (am_and (h 2000 x3) 63 ≠ 28 → ((am_and (h 2000 x3) 63 = 29 → ((am_ok (x3 + 1) ∧ (0 ≤ x3 + 1 ∧ x3 + 1 < L) ∧ am_ok (x3 + 2) ∧ (0 ≤ x3 + 2 ∧ x3 + 2 < L) ∧ am_ok (x3 + 3) ∧ (0 ≤ x3 + 3 ∧ x3 + 3 < L)) ∧ (∃ a437 h436, am_cd 17 188 [.inr (.inr 0), .inl (h 2000 (1 + x3)), .inl (h 2000 (2 + x3)), .inl (h 2000 (3 + x3))] h (some (.inl a437)) h436 ∧ ((((h436 1000 1).toNat : Int) = L) ∧ (∃ a441 h440, am_cd 17 172 [.inr (.inr 56), .inl (h436 2000 (1 + x3)), .inl (h436 2000 (2 + x3)), .inl (h436 2000 (3 + x3))] h436 (some (.inl a441)) h440 ∧ ((a437 = a441 → ((am_ok (x3 + 6)) ∧ am_x (am_cd 17) 231 (am_qi P) (b + 1) 18 [some (.inr (.inr 2000)), some (.inr (.inr 0)), some (.inr (.inr 56)), some (.inl (x3 + 6))] [] h440)) ∧ (a437 ≠ a441 → P 0 h440))))))) ∧ (am_and (h 2000 x3) 63 ≠ 29 → ((am_and (h 2000 x3) 63 = 30 → ((am_ok (x3 + 1) ∧ (0 ≤ x3 + 1 ∧ x3 + 1 < L) ∧ am_ok (x3 + 2) ∧ (0 ≤ x3 + 2 ∧ x3 + 2 < L) ∧ am_ok (x3 + 3) ∧ (0 ≤ x3 + 3 ∧ x3 + 3 < L)) ∧ (∃ a453 h452, am_cd 17 111 [.inr (.inr 0), .inl (h 2000 (1 + x3)), .inl (h 2000 (2 + x3)), .inl (h 2000 (3 + x3))] h (some (.inl a453)) h452 ∧ ((((h452 1000 1).toNat : Int) = L) ∧ (∃ a457 h456, am_cd 17 173 [.inr (.inr 56), .inl (h452 2000 (1 + x3)), .inl (h452 2000 (2 + x3)), .inl (h452 2000 (3 + x3))] h452 (some (.inl a457)) h456 ∧ ((a453 = a457 → ((am_ok (x3 + 6)) ∧ am_x (am_cd 17) 231 (am_qi P) (b + 1) 18 [some (.inr (.inr 2000)), some (.inr (.inr 0)), some (.inr (.inr 56)), some (.inl (x3 + 6))] [] h456)) ∧ (a453 ≠ a457 → P 0 h456))))))) ∧ (am_and (h 2000 x3) 63 ≠ 30 → ((am_and (h 2000 x3) 63 = 31 → ((am_ok (x3 + 1) ∧ (0 ≤ x3 + 1 ∧ x3 + 1 < L) ∧ am_ok (x3 + 2) ∧ (0 ≤ x3 + 2 ∧ x3 + 2 < L) ∧ am_ok (x3 + 3) ∧ (0 ≤ x3 + 3 ∧ x3 + 3 < L) ∧ am_ok (x3 + 4) ∧ (0 ≤ x3 + 4 ∧ x3 + 4 < L) ∧ am_ok (x3 + 5) ∧ (0 ≤ x3 + 5 ∧ x3 + 5 < L)) ∧ (∃ a473 h472, am_cd 17 112 [.inr (.inr 0), .inl (h 2000 (1 + x3)), .inl (h 2000 (2 + x3)), .inl (h 2000 (3 + x3)), .inl (h 2000 (4 + x3)), .inl (h 2000 (5 + x3))] h (some (.inl a473)) h472 ∧ ((((h472 1000 1).toNat : Int) = L) ∧ (∃ a477 h476, am_cd 17 174 [.inr (.inr 56), .inl (h472 2000 (1 + x3)), .inl (h472 2000 (2 + x3)), .inl (h472 2000 (3 + x3)), .inl (h472 2000 (4 + x3)), .inl (h472 2000 (5 + x3))] h472 (some (.inl a477)) h476 ∧ ((a473 = a477 → ((am_ok (x3 + 6)) ∧ am_x (am_cd 17) 231 (am_qi P) (b + 1) 18 [some (.inr (.inr 2000)), some (.inr (.inr 0)), some (.inr (.inr 56)), some (.inl (x3 + 6))] [] h476)) ∧ (a473 ≠ a477 → P 0 h476))))))) ∧ (am_and (h 2000 x3) 63 ≠ 31 → ((am_and (h 2000 x3) 63 = 32 → (∃ a483 h482, am_cd 17 160 [.inr (.inr 0)] h (some (.inl a483)) h482 ∧ (∃ a486 h485, am_cd 17 118 [.inr (.inr 56)] h482 (some (.inl a486)) h485 ∧ ((a483 = a486 → ((am_ok (x3 + 6)) ∧ am_x (am_cd 17) 231 (am_qi P) (b + 1) 18 [some (.inr (.inr 2000)), some (.inr (.inr 0)), some (.inr (.inr 56)), some (.inl (x3 + 6))] [] h485)) ∧ (a483 ≠ a486 → P 0 h485))))) ∧ (am_and (h 2000 x3) 63 ≠ 32 → ((am_and (h 2000 x3) 63 = 33 → ((am_ok (x3 + 1) ∧ (0 ≤ x3 + 1 ∧ x3 + 1 < L)) ∧ (∃ a494 h493, am_cd 17 214 [.inr (.inr 0), .inl (h 2000 (1 + x3))] h (some (.inl a494)) h493 ∧ ((((h493 1000 1).toNat : Int) = L) ∧ (∃ a498 h497, am_cd 17 136 [.inr (.inr 56), .inl (h493 2000 (1 + x3))] h493 (some (.inl a498)) h497 ∧ ((a494 = a498 → ((am_ok (x3 + 6)) ∧ am_x (am_cd 17) 231 (am_qi P) (b + 1) 18 [some (.inr (.inr 2000)), some (.inr (.inr 0)), some (.inr (.inr 56)), some (.inl (x3 + 6))] [] h497)) ∧ (a494 ≠ a498 → P 0 h497))))))) ∧ (am_and (h 2000 x3) 63 ≠ 33 → ((am_ok (x3 + 6)) ∧ am_x (am_cd 17) 231 (am_qi P) (b + 1) 18 [some (.inr (.inr 2000)), some (.inr (.inr 0)), some (.inr (.inr 56)), some (.inl (x3 + 6))] [] h))))))))))))))))))))))))))))))))))))))))))))))))))))))))))))))))))))))))) : am_x (am_cd 17) 231 (am_qi P) (b + 1) 18 [some (.inr (.inr 2000)), some (.inr (.inr 0)), some (.inr (.inr 56)), some (.inl x3)] [] h := by
  obtain ⟨⟨s1, s2⟩, H⟩ := H
  refine x_iload_n (q231c0 6 rfl) rfl ?_
  refine x_aload_n (q231c0 7 rfl) rfl ?_
  refine x_alen (q231c0 8 rfl) (al2000 _) s1 ?_
  refine x_bipush (q231c0 9 rfl) ?_
  refine x_isub (q231c0 10 rfl) s2 ?_
  refine x_icmp_gt (q231c0 11 rfl) (fun c3 => ?_) (fun c3 => ?_)
  · replace H := H.1 c3
    refine x_iconst (q231c17 56 rfl) ?_
    exact x_iretz (q231c17 57 rfl) (.inr rfl) H
  · replace H := H.2 c3
    obtain ⟨s4, H⟩ := H
    refine x_aload_n (q231c0 12 rfl) rfl ?_
    refine x_iload_n (q231c0 13 rfl) rfl ?_
    refine x_iaload (q231c0 14 rfl) (al2000 _) s1 (ag_l rfl rfl (rfl)) s4 ?_
    refine x_bipush (q231c0 15 rfl) ?_
    refine x_iand (q231c0 16 rfl) ?_
    refine x_tsw (q231c0 17 rfl) (tg := 1456) (ts := [184, 217, 260, 293, 316, 359, 392, 455, 488, 521, 564, 587, 620, 663, 716, 779, 802, 825, 868, 911, 954, 1007, 1050, 1083, 1116, 1139, 1172, 1215, 1248, 1271, 1314, 1357, 1420, 1433]) rfl rfl ?_
    refine sw_cons (fun c5 => ?_) (fun c5 => ?_)
    · replace H := H.1 c5
      obtain ⟨⟨s6, s7, s8, s9⟩, H⟩ := H
      refine x_aload_n (q231c0 18 rfl) rfl ?_
      refine x_aload_n (q231c0 19 rfl) rfl ?_
      refine x_iload_n (q231c0 20 rfl) rfl ?_
      refine x_iconst (q231c0 21 rfl) ?_
      refine x_iadd (q231c0 22 rfl) s6 ?_
      refine x_iaload (q231c0 23 rfl) (al2000 _) s1 (ag_l (j1 := 1 + x3) rfl (by omega) (rfl)) s7 ?_
      refine x_aload_n (q231c0 24 rfl) rfl ?_
      refine x_iload_n (q231c0 25 rfl) rfl ?_
      refine x_iconst (q231c0 26 rfl) ?_
      refine x_iadd (q231c0 27 rfl) s8 ?_
      refine x_iaload (q231c0 28 rfl) (al2000 _) s1 (ag_l (j1 := 2 + x3) rfl (by omega) (rfl)) s9 ?_
      obtain ⟨a11, h10, w12, H⟩ := H
      refine x_cvi (q231c0 29 rfl) rfl oc0 rfl (Nat.le_of_ble_eq_true rfl) ⟨a11, h10, w12, ?_⟩
      obtain ⟨s13, H⟩ := H
      refine x_aload_n (q231c0 30 rfl) rfl ?_
      refine x_aload_n (q231c0 31 rfl) rfl ?_
      refine x_iload_n (q231c0 32 rfl) rfl ?_
      refine x_iconst (q231c0 33 rfl) ?_
      refine x_iadd (q231c0 34 rfl) s6 ?_
      refine x_iaload (q231c0 35 rfl) (al2000 _) s13 (ag_l (j1 := 1 + x3) rfl (by omega) (rfl)) s7 ?_
      refine x_aload_n (q231c0 36 rfl) rfl ?_
      refine x_iload_n (q231c0 37 rfl) rfl ?_
      refine x_iconst (q231c0 38 rfl) ?_
      refine x_iadd (q231c0 39 rfl) s8 ?_
      refine x_iaload (q231c0 40 rfl) (al2000 _) s13 (ag_l (j1 := 2 + x3) rfl (by omega) (rfl)) s9 ?_
      obtain ⟨a15, h14, w16, H⟩ := H
      refine x_cvi (q231c0 41 rfl) rfl oc56 rfl (Nat.le_of_ble_eq_true rfl) ⟨a15, h14, w16, ?_⟩
      refine x_icmp_eq (q231c0 42 rfl) (fun c17 => ?_) (fun c17 => ?_)
      · replace H := H.1 c17
        obtain ⟨s18, H⟩ := H
        refine x_iinc (q231c17 54 rfl) rfl ⟨Nat.le_of_ble_eq_true rfl, trivial⟩ s18 ?_
        refine x_goto (q231c17 55 rfl) ?_
        exact H
      · replace H := H.2 c17
        refine x_iconst (q231c0 43 rfl) ?_
        exact x_iretz (q231c0 44 rfl) (.inl rfl) H
    · replace H := H.2 c5
      refine sw_cons (fun c19 => ?_) (fun c19 => ?_)
      · replace H := H.1 c19
        obtain ⟨⟨s20, s21, s22, s23, s24, s25⟩, H⟩ := H
        refine x_aload_n (q231c0 45 rfl) rfl ?_
        refine x_aload_n (q231c0 46 rfl) rfl ?_
        refine x_iload_n (q231c0 47 rfl) rfl ?_
        refine x_iconst (q231c0 48 rfl) ?_
        refine x_iadd (q231c0 49 rfl) s20 ?_
        refine x_iaload (q231c0 50 rfl) (al2000 _) s1 (ag_l (j1 := 1 + x3) rfl (by omega) (rfl)) s21 ?_
        refine x_aload_n (q231c0 51 rfl) rfl ?_
        refine x_iload_n (q231c0 52 rfl) rfl ?_
        refine x_iconst (q231c0 53 rfl) ?_
        refine x_iadd (q231c0 54 rfl) s22 ?_
        refine x_iaload (q231c0 55 rfl) (al2000 _) s1 (ag_l (j1 := 2 + x3) rfl (by omega) (rfl)) s23 ?_
        refine x_aload_n (q231c0 56 rfl) rfl ?_
        refine x_iload_n (q231c0 57 rfl) rfl ?_
        refine x_iconst (q231c0 58 rfl) ?_
        refine x_iadd (q231c0 59 rfl) s24 ?_
        refine x_iaload (q231c1 0 rfl) (al2000 _) s1 (ag_l (j1 := 3 + x3) rfl (by omega) (rfl)) s25 ?_
        obtain ⟨a27, h26, w28, H⟩ := H
        refine x_cvi (q231c1 1 rfl) rfl oc0 rfl (Nat.le_of_ble_eq_true rfl) ⟨a27, h26, w28, ?_⟩
        obtain ⟨s29, H⟩ := H
        refine x_aload_n (q231c1 2 rfl) rfl ?_
        refine x_aload_n (q231c1 3 rfl) rfl ?_
        refine x_iload_n (q231c1 4 rfl) rfl ?_
        refine x_iconst (q231c1 5 rfl) ?_
        refine x_iadd (q231c1 6 rfl) s20 ?_
        refine x_iaload (q231c1 7 rfl) (al2000 _) s29 (ag_l (j1 := 1 + x3) rfl (by omega) (rfl)) s21 ?_
        refine x_aload_n (q231c1 8 rfl) rfl ?_
        refine x_iload_n (q231c1 9 rfl) rfl ?_
        refine x_iconst (q231c1 10 rfl) ?_
        refine x_iadd (q231c1 11 rfl) s22 ?_
        refine x_iaload (q231c1 12 rfl) (al2000 _) s29 (ag_l (j1 := 2 + x3) rfl (by omega) (rfl)) s23 ?_
        refine x_aload_n (q231c1 13 rfl) rfl ?_
        refine x_iload_n (q231c1 14 rfl) rfl ?_
        refine x_iconst (q231c1 15 rfl) ?_
        refine x_iadd (q231c1 16 rfl) s24 ?_
        refine x_iaload (q231c1 17 rfl) (al2000 _) s29 (ag_l (j1 := 3 + x3) rfl (by omega) (rfl)) s25 ?_
        obtain ⟨a31, h30, w32, H⟩ := H
        refine x_cvi (q231c1 18 rfl) rfl oc56 rfl (Nat.le_of_ble_eq_true rfl) ⟨a31, h30, w32, ?_⟩
        refine x_icmp_eq (q231c1 19 rfl) (fun c33 => ?_) (fun c33 => ?_)
        · replace H := H.1 c33
          obtain ⟨s34, H⟩ := H
          refine x_iinc (q231c17 54 rfl) rfl ⟨Nat.le_of_ble_eq_true rfl, trivial⟩ s34 ?_
          refine x_goto (q231c17 55 rfl) ?_
          exact H
        · replace H := H.2 c33
          refine x_iconst (q231c1 20 rfl) ?_
          exact x_iretz (q231c1 21 rfl) (.inl rfl) H
      · replace H := H.2 c19
        refine sw_cons (fun c35 => ?_) (fun c35 => ?_)
        · replace H := H.1 c35
          obtain ⟨⟨s36, s37, s38, s39⟩, H⟩ := H
          refine x_aload_n (q231c1 22 rfl) rfl ?_
          refine x_aload_n (q231c1 23 rfl) rfl ?_
          refine x_iload_n (q231c1 24 rfl) rfl ?_
          refine x_iconst (q231c1 25 rfl) ?_
          refine x_iadd (q231c1 26 rfl) s36 ?_
          refine x_iaload (q231c1 27 rfl) (al2000 _) s1 (ag_l (j1 := 1 + x3) rfl (by omega) (rfl)) s37 ?_
          refine x_aload_n (q231c1 28 rfl) rfl ?_
          refine x_iload_n (q231c1 29 rfl) rfl ?_
          refine x_iconst (q231c1 30 rfl) ?_
          refine x_iadd (q231c1 31 rfl) s38 ?_
          refine x_iaload (q231c1 32 rfl) (al2000 _) s1 (ag_l (j1 := 2 + x3) rfl (by omega) (rfl)) s39 ?_
          obtain ⟨a41, h40, w42, H⟩ := H
          refine x_cvi (q231c1 33 rfl) rfl oc0 rfl (Nat.le_of_ble_eq_true rfl) ⟨a41, h40, w42, ?_⟩
          obtain ⟨s43, H⟩ := H
          refine x_aload_n (q231c1 34 rfl) rfl ?_
          refine x_aload_n (q231c1 35 rfl) rfl ?_
          refine x_iload_n (q231c1 36 rfl) rfl ?_
          refine x_iconst (q231c1 37 rfl) ?_
          refine x_iadd (q231c1 38 rfl) s36 ?_
          refine x_iaload (q231c1 39 rfl) (al2000 _) s43 (ag_l (j1 := 1 + x3) rfl (by omega) (rfl)) s37 ?_
          refine x_aload_n (q231c1 40 rfl) rfl ?_
          refine x_iload_n (q231c1 41 rfl) rfl ?_
          refine x_iconst (q231c1 42 rfl) ?_
          refine x_iadd (q231c1 43 rfl) s38 ?_
          refine x_iaload (q231c1 44 rfl) (al2000 _) s43 (ag_l (j1 := 2 + x3) rfl (by omega) (rfl)) s39 ?_
          obtain ⟨a45, h44, w46, H⟩ := H
          refine x_cvi (q231c1 45 rfl) rfl oc56 rfl (Nat.le_of_ble_eq_true rfl) ⟨a45, h44, w46, ?_⟩
          refine x_icmp_eq (q231c1 46 rfl) (fun c47 => ?_) (fun c47 => ?_)
          · replace H := H.1 c47
            obtain ⟨s48, H⟩ := H
            refine x_iinc (q231c17 54 rfl) rfl ⟨Nat.le_of_ble_eq_true rfl, trivial⟩ s48 ?_
            refine x_goto (q231c17 55 rfl) ?_
            exact H
          · replace H := H.2 c47
            refine x_iconst (q231c1 47 rfl) ?_
            exact x_iretz (q231c1 48 rfl) (.inl rfl) H
        · replace H := H.2 c35
          refine sw_cons (fun c49 => ?_) (fun c49 => ?_)
          · replace H := H.1 c49
            obtain ⟨⟨s50, s51⟩, H⟩ := H
            refine x_aload_n (q231c1 49 rfl) rfl ?_
            refine x_aload_n (q231c1 50 rfl) rfl ?_
            refine x_iload_n (q231c1 51 rfl) rfl ?_
            refine x_iconst (q231c1 52 rfl) ?_
            refine x_iadd (q231c1 53 rfl) s50 ?_
            refine x_iaload (q231c1 54 rfl) (al2000 _) s1 (ag_l (j1 := 1 + x3) rfl (by omega) (rfl)) s51 ?_
            obtain ⟨a53, h52, w54, H⟩ := H
            refine x_cvi (q231c1 55 rfl) rfl oc0 rfl (Nat.le_of_ble_eq_true rfl) ⟨a53, h52, w54, ?_⟩
            obtain ⟨s55, H⟩ := H
            refine x_aload_n (q231c1 56 rfl) rfl ?_
            refine x_aload_n (q231c1 57 rfl) rfl ?_
            refine x_iload_n (q231c1 58 rfl) rfl ?_
            refine x_iconst (q231c1 59 rfl) ?_
            refine x_iadd (q231c2 0 rfl) s50 ?_
            refine x_iaload (q231c2 1 rfl) (al2000 _) s55 (ag_l (j1 := 1 + x3) rfl (by omega) (rfl)) s51 ?_
            obtain ⟨a57, h56, w58, H⟩ := H
            refine x_cvi (q231c2 2 rfl) rfl oc56 rfl (Nat.le_of_ble_eq_true rfl) ⟨a57, h56, w58, ?_⟩
            refine x_icmp_eq (q231c2 3 rfl) (fun c59 => ?_) (fun c59 => ?_)
            · replace H := H.1 c59
              obtain ⟨s60, H⟩ := H
              refine x_iinc (q231c17 54 rfl) rfl ⟨Nat.le_of_ble_eq_true rfl, trivial⟩ s60 ?_
              refine x_goto (q231c17 55 rfl) ?_
              exact H
            · replace H := H.2 c59
              refine x_iconst (q231c2 4 rfl) ?_
              exact x_iretz (q231c2 5 rfl) (.inl rfl) H
          · replace H := H.2 c49
            refine sw_cons (fun c61 => ?_) (fun c61 => ?_)
            · replace H := H.1 c61
              obtain ⟨⟨s62, s63, s64, s65, s66, s67⟩, H⟩ := H
              refine x_aload_n (q231c2 6 rfl) rfl ?_
              refine x_aload_n (q231c2 7 rfl) rfl ?_
              refine x_iload_n (q231c2 8 rfl) rfl ?_
              refine x_iconst (q231c2 9 rfl) ?_
              refine x_iadd (q231c2 10 rfl) s62 ?_
              refine x_iaload (q231c2 11 rfl) (al2000 _) s1 (ag_l (j1 := 1 + x3) rfl (by omega) (rfl)) s63 ?_
              refine x_aload_n (q231c2 12 rfl) rfl ?_
              refine x_iload_n (q231c2 13 rfl) rfl ?_
              refine x_iconst (q231c2 14 rfl) ?_
              refine x_iadd (q231c2 15 rfl) s64 ?_
              refine x_iaload (q231c2 16 rfl) (al2000 _) s1 (ag_l (j1 := 2 + x3) rfl (by omega) (rfl)) s65 ?_
              refine x_aload_n (q231c2 17 rfl) rfl ?_
              refine x_iload_n (q231c2 18 rfl) rfl ?_
              refine x_iconst (q231c2 19 rfl) ?_
              refine x_iadd (q231c2 20 rfl) s66 ?_
              refine x_iaload (q231c2 21 rfl) (al2000 _) s1 (ag_l (j1 := 3 + x3) rfl (by omega) (rfl)) s67 ?_
              obtain ⟨a69, h68, w70, H⟩ := H
              refine x_cvi (q231c2 22 rfl) rfl oc0 rfl (Nat.le_of_ble_eq_true rfl) ⟨a69, h68, w70, ?_⟩
              obtain ⟨s71, H⟩ := H
              refine x_aload_n (q231c2 23 rfl) rfl ?_
              refine x_aload_n (q231c2 24 rfl) rfl ?_
              refine x_iload_n (q231c2 25 rfl) rfl ?_
              refine x_iconst (q231c2 26 rfl) ?_
              refine x_iadd (q231c2 27 rfl) s62 ?_
              refine x_iaload (q231c2 28 rfl) (al2000 _) s71 (ag_l (j1 := 1 + x3) rfl (by omega) (rfl)) s63 ?_
              refine x_aload_n (q231c2 29 rfl) rfl ?_
              refine x_iload_n (q231c2 30 rfl) rfl ?_
              refine x_iconst (q231c2 31 rfl) ?_
              refine x_iadd (q231c2 32 rfl) s64 ?_
              refine x_iaload (q231c2 33 rfl) (al2000 _) s71 (ag_l (j1 := 2 + x3) rfl (by omega) (rfl)) s65 ?_
              refine x_aload_n (q231c2 34 rfl) rfl ?_
              refine x_iload_n (q231c2 35 rfl) rfl ?_
              refine x_iconst (q231c2 36 rfl) ?_
              refine x_iadd (q231c2 37 rfl) s66 ?_
              refine x_iaload (q231c2 38 rfl) (al2000 _) s71 (ag_l (j1 := 3 + x3) rfl (by omega) (rfl)) s67 ?_
              obtain ⟨a73, h72, w74, H⟩ := H
              refine x_cvi (q231c2 39 rfl) rfl oc56 rfl (Nat.le_of_ble_eq_true rfl) ⟨a73, h72, w74, ?_⟩
              refine x_icmp_eq (q231c2 40 rfl) (fun c75 => ?_) (fun c75 => ?_)
              · replace H := H.1 c75
                obtain ⟨s76, H⟩ := H
                refine x_iinc (q231c17 54 rfl) rfl ⟨Nat.le_of_ble_eq_true rfl, trivial⟩ s76 ?_
                refine x_goto (q231c17 55 rfl) ?_
                exact H
              · replace H := H.2 c75
                refine x_iconst (q231c2 41 rfl) ?_
                exact x_iretz (q231c2 42 rfl) (.inl rfl) H
            · replace H := H.2 c61
              refine sw_cons (fun c77 => ?_) (fun c77 => ?_)
              · replace H := H.1 c77
                obtain ⟨⟨s78, s79, s80, s81⟩, H⟩ := H
                refine x_aload_n (q231c2 43 rfl) rfl ?_
                refine x_aload_n (q231c2 44 rfl) rfl ?_
                refine x_iload_n (q231c2 45 rfl) rfl ?_
                refine x_iconst (q231c2 46 rfl) ?_
                refine x_iadd (q231c2 47 rfl) s78 ?_
                refine x_iaload (q231c2 48 rfl) (al2000 _) s1 (ag_l (j1 := 1 + x3) rfl (by omega) (rfl)) s79 ?_
                refine x_aload_n (q231c2 49 rfl) rfl ?_
                refine x_iload_n (q231c2 50 rfl) rfl ?_
                refine x_iconst (q231c2 51 rfl) ?_
                refine x_iadd (q231c2 52 rfl) s80 ?_
                refine x_iaload (q231c2 53 rfl) (al2000 _) s1 (ag_l (j1 := 2 + x3) rfl (by omega) (rfl)) s81 ?_
                obtain ⟨a83, h82, w84, H⟩ := H
                refine x_cvi (q231c2 54 rfl) rfl oc0 rfl (Nat.le_of_ble_eq_true rfl) ⟨a83, h82, w84, ?_⟩
                obtain ⟨s85, H⟩ := H
                refine x_aload_n (q231c2 55 rfl) rfl ?_
                refine x_aload_n (q231c2 56 rfl) rfl ?_
                refine x_iload_n (q231c2 57 rfl) rfl ?_
                refine x_iconst (q231c2 58 rfl) ?_
                refine x_iadd (q231c2 59 rfl) s78 ?_
                refine x_iaload (q231c3 0 rfl) (al2000 _) s85 (ag_l (j1 := 1 + x3) rfl (by omega) (rfl)) s79 ?_
                refine x_aload_n (q231c3 1 rfl) rfl ?_
                refine x_iload_n (q231c3 2 rfl) rfl ?_
                refine x_iconst (q231c3 3 rfl) ?_
                refine x_iadd (q231c3 4 rfl) s80 ?_
                refine x_iaload (q231c3 5 rfl) (al2000 _) s85 (ag_l (j1 := 2 + x3) rfl (by omega) (rfl)) s81 ?_
                obtain ⟨a87, h86, w88, H⟩ := H
                refine x_cvi (q231c3 6 rfl) rfl oc56 rfl (Nat.le_of_ble_eq_true rfl) ⟨a87, h86, w88, ?_⟩
                refine x_icmp_eq (q231c3 7 rfl) (fun c89 => ?_) (fun c89 => ?_)
                · replace H := H.1 c89
                  obtain ⟨s90, H⟩ := H
                  refine x_iinc (q231c17 54 rfl) rfl ⟨Nat.le_of_ble_eq_true rfl, trivial⟩ s90 ?_
                  refine x_goto (q231c17 55 rfl) ?_
                  exact H
                · replace H := H.2 c89
                  refine x_iconst (q231c3 8 rfl) ?_
                  exact x_iretz (q231c3 9 rfl) (.inl rfl) H
              · replace H := H.2 c77
                refine sw_cons (fun c91 => ?_) (fun c91 => ?_)
                · replace H := H.1 c91
                  obtain ⟨⟨s92, s93, s94, s95, s96, s97⟩, H⟩ := H
                  refine x_aload_n (q231c3 10 rfl) rfl ?_
                  refine x_aload_n (q231c3 11 rfl) rfl ?_
                  refine x_iload_n (q231c3 12 rfl) rfl ?_
                  refine x_iconst (q231c3 13 rfl) ?_
                  refine x_iadd (q231c3 14 rfl) s92 ?_
                  refine x_iaload (q231c3 15 rfl) (al2000 _) s1 (ag_l (j1 := 1 + x3) rfl (by omega) (rfl)) s93 ?_
                  refine x_aload_n (q231c3 16 rfl) rfl ?_
                  refine x_iload_n (q231c3 17 rfl) rfl ?_
                  refine x_iconst (q231c3 18 rfl) ?_
                  refine x_iadd (q231c3 19 rfl) s94 ?_
                  refine x_iaload (q231c3 20 rfl) (al2000 _) s1 (ag_l (j1 := 2 + x3) rfl (by omega) (rfl)) s95 ?_
                  refine x_i2l (q231c3 21 rfl) ?_
                  refine x_bipush (q231c3 22 rfl) ?_
                  refine x_lshl (q231c3 23 rfl) ?_
                  refine x_aload_n (q231c3 24 rfl) rfl ?_
                  refine x_iload_n (q231c3 25 rfl) rfl ?_
                  refine x_iconst (q231c3 26 rfl) ?_
                  refine x_iadd (q231c3 27 rfl) s96 ?_
                  refine x_iaload (q231c3 28 rfl) (al2000 _) s1 (ag_l (j1 := 3 + x3) rfl (by omega) (rfl)) s97 ?_
                  refine x_i2l (q231c3 29 rfl) ?_
                  refine x_ldc2 (q231c3 30 rfl) ?_
                  refine x_land (q231c3 31 rfl) ?_
                  refine x_lor (q231c3 32 rfl) ?_
                  obtain ⟨a99, h98, w100, H⟩ := H
                  refine x_cvi (q231c3 33 rfl) rfl oc0 rfl (Nat.le_of_ble_eq_true rfl) ⟨a99, h98, w100, ?_⟩
                  obtain ⟨s101, H⟩ := H
                  refine x_aload_n (q231c3 34 rfl) rfl ?_
                  refine x_aload_n (q231c3 35 rfl) rfl ?_
                  refine x_iload_n (q231c3 36 rfl) rfl ?_
                  refine x_iconst (q231c3 37 rfl) ?_
                  refine x_iadd (q231c3 38 rfl) s92 ?_
                  refine x_iaload (q231c3 39 rfl) (al2000 _) s101 (ag_l (j1 := 1 + x3) rfl (by omega) (rfl)) s93 ?_
                  refine x_aload_n (q231c3 40 rfl) rfl ?_
                  refine x_iload_n (q231c3 41 rfl) rfl ?_
                  refine x_iconst (q231c3 42 rfl) ?_
                  refine x_iadd (q231c3 43 rfl) s94 ?_
                  refine x_iaload (q231c3 44 rfl) (al2000 _) s101 (ag_l (j1 := 2 + x3) rfl (by omega) (rfl)) s95 ?_
                  refine x_i2l (q231c3 45 rfl) ?_
                  refine x_bipush (q231c3 46 rfl) ?_
                  refine x_lshl (q231c3 47 rfl) ?_
                  refine x_aload_n (q231c3 48 rfl) rfl ?_
                  refine x_iload_n (q231c3 49 rfl) rfl ?_
                  refine x_iconst (q231c3 50 rfl) ?_
                  refine x_iadd (q231c3 51 rfl) s96 ?_
                  refine x_iaload (q231c3 52 rfl) (al2000 _) s101 (ag_l (j1 := 3 + x3) rfl (by omega) (rfl)) s97 ?_
                  refine x_i2l (q231c3 53 rfl) ?_
                  refine x_ldc2 (q231c3 54 rfl) ?_
                  refine x_land (q231c3 55 rfl) ?_
                  refine x_lor (q231c3 56 rfl) ?_
                  obtain ⟨a103, h102, w104, H⟩ := H
                  refine x_cvi (q231c3 57 rfl) rfl oc56 rfl (Nat.le_of_ble_eq_true rfl) ⟨a103, h102, w104, ?_⟩
                  refine x_icmp_eq (q231c3 58 rfl) (fun c105 => ?_) (fun c105 => ?_)
                  · replace H := H.1 c105
                    obtain ⟨s106, H⟩ := H
                    refine x_iinc (q231c17 54 rfl) rfl ⟨Nat.le_of_ble_eq_true rfl, trivial⟩ s106 ?_
                    refine x_goto (q231c17 55 rfl) ?_
                    exact H
                  · replace H := H.2 c105
                    refine x_iconst (q231c3 59 rfl) ?_
                    exact x_iretz (q231c4 0 rfl) (.inl rfl) H
                · replace H := H.2 c91
                  refine sw_cons (fun c107 => ?_) (fun c107 => ?_)
                  · replace H := H.1 c107
                    obtain ⟨⟨s108, s109, s110, s111⟩, H⟩ := H
                    refine x_aload_n (q231c4 1 rfl) rfl ?_
                    refine x_aload_n (q231c4 2 rfl) rfl ?_
                    refine x_iload_n (q231c4 3 rfl) rfl ?_
                    refine x_iconst (q231c4 4 rfl) ?_
                    refine x_iadd (q231c4 5 rfl) s108 ?_
                    refine x_iaload (q231c4 6 rfl) (al2000 _) s1 (ag_l (j1 := 1 + x3) rfl (by omega) (rfl)) s109 ?_
                    refine x_aload_n (q231c4 7 rfl) rfl ?_
                    refine x_iload_n (q231c4 8 rfl) rfl ?_
                    refine x_iconst (q231c4 9 rfl) ?_
                    refine x_iadd (q231c4 10 rfl) s110 ?_
                    refine x_iaload (q231c4 11 rfl) (al2000 _) s1 (ag_l (j1 := 2 + x3) rfl (by omega) (rfl)) s111 ?_
                    obtain ⟨a113, h112, w114, H⟩ := H
                    refine x_cvi (q231c4 12 rfl) rfl oc0 rfl (Nat.le_of_ble_eq_true rfl) ⟨a113, h112, w114, ?_⟩
                    obtain ⟨s115, H⟩ := H
                    refine x_aload_n (q231c4 13 rfl) rfl ?_
                    refine x_aload_n (q231c4 14 rfl) rfl ?_
                    refine x_iload_n (q231c4 15 rfl) rfl ?_
                    refine x_iconst (q231c4 16 rfl) ?_
                    refine x_iadd (q231c4 17 rfl) s108 ?_
                    refine x_iaload (q231c4 18 rfl) (al2000 _) s115 (ag_l (j1 := 1 + x3) rfl (by omega) (rfl)) s109 ?_
                    refine x_aload_n (q231c4 19 rfl) rfl ?_
                    refine x_iload_n (q231c4 20 rfl) rfl ?_
                    refine x_iconst (q231c4 21 rfl) ?_
                    refine x_iadd (q231c4 22 rfl) s110 ?_
                    refine x_iaload (q231c4 23 rfl) (al2000 _) s115 (ag_l (j1 := 2 + x3) rfl (by omega) (rfl)) s111 ?_
                    obtain ⟨a117, h116, w118, H⟩ := H
                    refine x_cvi (q231c4 24 rfl) rfl oc56 rfl (Nat.le_of_ble_eq_true rfl) ⟨a117, h116, w118, ?_⟩
                    refine x_icmp_eq (q231c4 25 rfl) (fun c119 => ?_) (fun c119 => ?_)
                    · replace H := H.1 c119
                      obtain ⟨s120, H⟩ := H
                      refine x_iinc (q231c17 54 rfl) rfl ⟨Nat.le_of_ble_eq_true rfl, trivial⟩ s120 ?_
                      refine x_goto (q231c17 55 rfl) ?_
                      exact H
                    · replace H := H.2 c119
                      refine x_iconst (q231c4 26 rfl) ?_
                      exact x_iretz (q231c4 27 rfl) (.inl rfl) H
                  · replace H := H.2 c107
                    refine sw_cons (fun c121 => ?_) (fun c121 => ?_)
                    · replace H := H.1 c121
                      obtain ⟨⟨s122, s123, s124, s125⟩, H⟩ := H
                      refine x_aload_n (q231c4 28 rfl) rfl ?_
                      refine x_aload_n (q231c4 29 rfl) rfl ?_
                      refine x_iload_n (q231c4 30 rfl) rfl ?_
                      refine x_iconst (q231c4 31 rfl) ?_
                      refine x_iadd (q231c4 32 rfl) s122 ?_
                      refine x_iaload (q231c4 33 rfl) (al2000 _) s1 (ag_l (j1 := 1 + x3) rfl (by omega) (rfl)) s123 ?_
                      refine x_aload_n (q231c4 34 rfl) rfl ?_
                      refine x_iload_n (q231c4 35 rfl) rfl ?_
                      refine x_iconst (q231c4 36 rfl) ?_
                      refine x_iadd (q231c4 37 rfl) s124 ?_
                      refine x_iaload (q231c4 38 rfl) (al2000 _) s1 (ag_l (j1 := 2 + x3) rfl (by omega) (rfl)) s125 ?_
                      obtain ⟨a127, h126, w128, H⟩ := H
                      refine x_cvi (q231c4 39 rfl) rfl oc0 rfl (Nat.le_of_ble_eq_true rfl) ⟨a127, h126, w128, ?_⟩
                      obtain ⟨s129, H⟩ := H
                      refine x_aload_n (q231c4 40 rfl) rfl ?_
                      refine x_aload_n (q231c4 41 rfl) rfl ?_
                      refine x_iload_n (q231c4 42 rfl) rfl ?_
                      refine x_iconst (q231c4 43 rfl) ?_
                      refine x_iadd (q231c4 44 rfl) s122 ?_
                      refine x_iaload (q231c4 45 rfl) (al2000 _) s129 (ag_l (j1 := 1 + x3) rfl (by omega) (rfl)) s123 ?_
                      refine x_aload_n (q231c4 46 rfl) rfl ?_
                      refine x_iload_n (q231c4 47 rfl) rfl ?_
                      refine x_iconst (q231c4 48 rfl) ?_
                      refine x_iadd (q231c4 49 rfl) s124 ?_
                      refine x_iaload (q231c4 50 rfl) (al2000 _) s129 (ag_l (j1 := 2 + x3) rfl (by omega) (rfl)) s125 ?_
                      obtain ⟨a131, h130, w132, H⟩ := H
                      refine x_cvi (q231c4 51 rfl) rfl oc56 rfl (Nat.le_of_ble_eq_true rfl) ⟨a131, h130, w132, ?_⟩
                      refine x_icmp_eq (q231c4 52 rfl) (fun c133 => ?_) (fun c133 => ?_)
                      · replace H := H.1 c133
                        obtain ⟨s134, H⟩ := H
                        refine x_iinc (q231c17 54 rfl) rfl ⟨Nat.le_of_ble_eq_true rfl, trivial⟩ s134 ?_
                        refine x_goto (q231c17 55 rfl) ?_
                        exact H
                      · replace H := H.2 c133
                        refine x_iconst (q231c4 53 rfl) ?_
                        exact x_iretz (q231c4 54 rfl) (.inl rfl) H
                    · replace H := H.2 c121
                      refine sw_cons (fun c135 => ?_) (fun c135 => ?_)
                      · replace H := H.1 c135
                        obtain ⟨⟨s136, s137, s138, s139, s140, s141⟩, H⟩ := H
                        refine x_aload_n (q231c4 55 rfl) rfl ?_
                        refine x_aload_n (q231c4 56 rfl) rfl ?_
                        refine x_iload_n (q231c4 57 rfl) rfl ?_
                        refine x_iconst (q231c4 58 rfl) ?_
                        refine x_iadd (q231c4 59 rfl) s136 ?_
                        refine x_iaload (q231c5 0 rfl) (al2000 _) s1 (ag_l (j1 := 1 + x3) rfl (by omega) (rfl)) s137 ?_
                        refine x_aload_n (q231c5 1 rfl) rfl ?_
                        refine x_iload_n (q231c5 2 rfl) rfl ?_
                        refine x_iconst (q231c5 3 rfl) ?_
                        refine x_iadd (q231c5 4 rfl) s138 ?_
                        refine x_iaload (q231c5 5 rfl) (al2000 _) s1 (ag_l (j1 := 2 + x3) rfl (by omega) (rfl)) s139 ?_
                        refine x_aload_n (q231c5 6 rfl) rfl ?_
                        refine x_iload_n (q231c5 7 rfl) rfl ?_
                        refine x_iconst (q231c5 8 rfl) ?_
                        refine x_iadd (q231c5 9 rfl) s140 ?_
                        refine x_iaload (q231c5 10 rfl) (al2000 _) s1 (ag_l (j1 := 3 + x3) rfl (by omega) (rfl)) s141 ?_
                        obtain ⟨a143, h142, w144, H⟩ := H
                        refine x_cvi (q231c5 11 rfl) rfl oc0 rfl (Nat.le_of_ble_eq_true rfl) ⟨a143, h142, w144, ?_⟩
                        obtain ⟨s145, H⟩ := H
                        refine x_aload_n (q231c5 12 rfl) rfl ?_
                        refine x_aload_n (q231c5 13 rfl) rfl ?_
                        refine x_iload_n (q231c5 14 rfl) rfl ?_
                        refine x_iconst (q231c5 15 rfl) ?_
                        refine x_iadd (q231c5 16 rfl) s136 ?_
                        refine x_iaload (q231c5 17 rfl) (al2000 _) s145 (ag_l (j1 := 1 + x3) rfl (by omega) (rfl)) s137 ?_
                        refine x_aload_n (q231c5 18 rfl) rfl ?_
                        refine x_iload_n (q231c5 19 rfl) rfl ?_
                        refine x_iconst (q231c5 20 rfl) ?_
                        refine x_iadd (q231c5 21 rfl) s138 ?_
                        refine x_iaload (q231c5 22 rfl) (al2000 _) s145 (ag_l (j1 := 2 + x3) rfl (by omega) (rfl)) s139 ?_
                        refine x_aload_n (q231c5 23 rfl) rfl ?_
                        refine x_iload_n (q231c5 24 rfl) rfl ?_
                        refine x_iconst (q231c5 25 rfl) ?_
                        refine x_iadd (q231c5 26 rfl) s140 ?_
                        refine x_iaload (q231c5 27 rfl) (al2000 _) s145 (ag_l (j1 := 3 + x3) rfl (by omega) (rfl)) s141 ?_
                        obtain ⟨a147, h146, w148, H⟩ := H
                        refine x_cvi (q231c5 28 rfl) rfl oc56 rfl (Nat.le_of_ble_eq_true rfl) ⟨a147, h146, w148, ?_⟩
                        refine x_icmp_eq (q231c5 29 rfl) (fun c149 => ?_) (fun c149 => ?_)
                        · replace H := H.1 c149
                          obtain ⟨s150, H⟩ := H
                          refine x_iinc (q231c17 54 rfl) rfl ⟨Nat.le_of_ble_eq_true rfl, trivial⟩ s150 ?_
                          refine x_goto (q231c17 55 rfl) ?_
                          exact H
                        · replace H := H.2 c149
                          refine x_iconst (q231c5 30 rfl) ?_
                          exact x_iretz (q231c5 31 rfl) (.inl rfl) H
                      · replace H := H.2 c135
                        refine sw_cons (fun c151 => ?_) (fun c151 => ?_)
                        · replace H := H.1 c151
                          obtain ⟨⟨s152, s153⟩, H⟩ := H
                          refine x_aload_n (q231c5 32 rfl) rfl ?_
                          refine x_aload_n (q231c5 33 rfl) rfl ?_
                          refine x_iload_n (q231c5 34 rfl) rfl ?_
                          refine x_iconst (q231c5 35 rfl) ?_
                          refine x_iadd (q231c5 36 rfl) s152 ?_
                          refine x_iaload (q231c5 37 rfl) (al2000 _) s1 (ag_l (j1 := 1 + x3) rfl (by omega) (rfl)) s153 ?_
                          obtain ⟨a155, h154, w156, H⟩ := H
                          refine x_cvi (q231c5 38 rfl) rfl oc0 rfl (Nat.le_of_ble_eq_true rfl) ⟨a155, h154, w156, ?_⟩
                          obtain ⟨s157, H⟩ := H
                          refine x_aload_n (q231c5 39 rfl) rfl ?_
                          refine x_aload_n (q231c5 40 rfl) rfl ?_
                          refine x_iload_n (q231c5 41 rfl) rfl ?_
                          refine x_iconst (q231c5 42 rfl) ?_
                          refine x_iadd (q231c5 43 rfl) s152 ?_
                          refine x_iaload (q231c5 44 rfl) (al2000 _) s157 (ag_l (j1 := 1 + x3) rfl (by omega) (rfl)) s153 ?_
                          obtain ⟨a159, h158, w160, H⟩ := H
                          refine x_cvi (q231c5 45 rfl) rfl oc56 rfl (Nat.le_of_ble_eq_true rfl) ⟨a159, h158, w160, ?_⟩
                          refine x_icmp_eq (q231c5 46 rfl) (fun c161 => ?_) (fun c161 => ?_)
                          · replace H := H.1 c161
                            obtain ⟨s162, H⟩ := H
                            refine x_iinc (q231c17 54 rfl) rfl ⟨Nat.le_of_ble_eq_true rfl, trivial⟩ s162 ?_
                            refine x_goto (q231c17 55 rfl) ?_
                            exact H
                          · replace H := H.2 c161
                            refine x_iconst (q231c5 47 rfl) ?_
                            exact x_iretz (q231c5 48 rfl) (.inl rfl) H
                        · replace H := H.2 c151
                          refine sw_cons (fun c163 => ?_) (fun c163 => ?_)
                          · replace H := H.1 c163
                            obtain ⟨⟨s164, s165, s166, s167⟩, H⟩ := H
                            refine x_aload_n (q231c5 49 rfl) rfl ?_
                            refine x_aload_n (q231c5 50 rfl) rfl ?_
                            refine x_iload_n (q231c5 51 rfl) rfl ?_
                            refine x_iconst (q231c5 52 rfl) ?_
                            refine x_iadd (q231c5 53 rfl) s164 ?_
                            refine x_iaload (q231c5 54 rfl) (al2000 _) s1 (ag_l (j1 := 1 + x3) rfl (by omega) (rfl)) s165 ?_
                            refine x_aload_n (q231c5 55 rfl) rfl ?_
                            refine x_iload_n (q231c5 56 rfl) rfl ?_
                            refine x_iconst (q231c5 57 rfl) ?_
                            refine x_iadd (q231c5 58 rfl) s166 ?_
                            refine x_iaload (q231c5 59 rfl) (al2000 _) s1 (ag_l (j1 := 2 + x3) rfl (by omega) (rfl)) s167 ?_
                            obtain ⟨a169, h168, w170, H⟩ := H
                            refine x_cvi (q231c6 0 rfl) rfl oc0 rfl (Nat.le_of_ble_eq_true rfl) ⟨a169, h168, w170, ?_⟩
                            obtain ⟨s171, H⟩ := H
                            refine x_aload_n (q231c6 1 rfl) rfl ?_
                            refine x_aload_n (q231c6 2 rfl) rfl ?_
                            refine x_iload_n (q231c6 3 rfl) rfl ?_
                            refine x_iconst (q231c6 4 rfl) ?_
                            refine x_iadd (q231c6 5 rfl) s164 ?_
                            refine x_iaload (q231c6 6 rfl) (al2000 _) s171 (ag_l (j1 := 1 + x3) rfl (by omega) (rfl)) s165 ?_
                            refine x_aload_n (q231c6 7 rfl) rfl ?_
                            refine x_iload_n (q231c6 8 rfl) rfl ?_
                            refine x_iconst (q231c6 9 rfl) ?_
                            refine x_iadd (q231c6 10 rfl) s166 ?_
                            refine x_iaload (q231c6 11 rfl) (al2000 _) s171 (ag_l (j1 := 2 + x3) rfl (by omega) (rfl)) s167 ?_
                            obtain ⟨a173, h172, w174, H⟩ := H
                            refine x_cvi (q231c6 12 rfl) rfl oc56 rfl (Nat.le_of_ble_eq_true rfl) ⟨a173, h172, w174, ?_⟩
                            refine x_icmp_eq (q231c6 13 rfl) (fun c175 => ?_) (fun c175 => ?_)
                            · replace H := H.1 c175
                              obtain ⟨s176, H⟩ := H
                              refine x_iinc (q231c17 54 rfl) rfl ⟨Nat.le_of_ble_eq_true rfl, trivial⟩ s176 ?_
                              refine x_goto (q231c17 55 rfl) ?_
                              exact H
                            · replace H := H.2 c175
                              refine x_iconst (q231c6 14 rfl) ?_
                              exact x_iretz (q231c6 15 rfl) (.inl rfl) H
                          · replace H := H.2 c163
                            refine sw_cons (fun c177 => ?_) (fun c177 => ?_)
                            · replace H := H.1 c177
                              obtain ⟨⟨s178, s179, s180, s181, s182, s183⟩, H⟩ := H
                              refine x_aload_n (q231c6 16 rfl) rfl ?_
                              refine x_aload_n (q231c6 17 rfl) rfl ?_
                              refine x_iload_n (q231c6 18 rfl) rfl ?_
                              refine x_iconst (q231c6 19 rfl) ?_
                              refine x_iadd (q231c6 20 rfl) s178 ?_
                              refine x_iaload (q231c6 21 rfl) (al2000 _) s1 (ag_l (j1 := 1 + x3) rfl (by omega) (rfl)) s179 ?_
                              refine x_aload_n (q231c6 22 rfl) rfl ?_
                              refine x_iload_n (q231c6 23 rfl) rfl ?_
                              refine x_iconst (q231c6 24 rfl) ?_
                              refine x_iadd (q231c6 25 rfl) s180 ?_
                              refine x_iaload (q231c6 26 rfl) (al2000 _) s1 (ag_l (j1 := 2 + x3) rfl (by omega) (rfl)) s181 ?_
                              refine x_aload_n (q231c6 27 rfl) rfl ?_
                              refine x_iload_n (q231c6 28 rfl) rfl ?_
                              refine x_iconst (q231c6 29 rfl) ?_
                              refine x_iadd (q231c6 30 rfl) s182 ?_
                              refine x_iaload (q231c6 31 rfl) (al2000 _) s1 (ag_l (j1 := 3 + x3) rfl (by omega) (rfl)) s183 ?_
                              obtain ⟨a185, h184, w186, H⟩ := H
                              refine x_cvi (q231c6 32 rfl) rfl oc0 rfl (Nat.le_of_ble_eq_true rfl) ⟨a185, h184, w186, ?_⟩
                              obtain ⟨s187, H⟩ := H
                              refine x_aload_n (q231c6 33 rfl) rfl ?_
                              refine x_aload_n (q231c6 34 rfl) rfl ?_
                              refine x_iload_n (q231c6 35 rfl) rfl ?_
                              refine x_iconst (q231c6 36 rfl) ?_
                              refine x_iadd (q231c6 37 rfl) s178 ?_
                              refine x_iaload (q231c6 38 rfl) (al2000 _) s187 (ag_l (j1 := 1 + x3) rfl (by omega) (rfl)) s179 ?_
                              refine x_aload_n (q231c6 39 rfl) rfl ?_
                              refine x_iload_n (q231c6 40 rfl) rfl ?_
                              refine x_iconst (q231c6 41 rfl) ?_
                              refine x_iadd (q231c6 42 rfl) s180 ?_
                              refine x_iaload (q231c6 43 rfl) (al2000 _) s187 (ag_l (j1 := 2 + x3) rfl (by omega) (rfl)) s181 ?_
                              refine x_aload_n (q231c6 44 rfl) rfl ?_
                              refine x_iload_n (q231c6 45 rfl) rfl ?_
                              refine x_iconst (q231c6 46 rfl) ?_
                              refine x_iadd (q231c6 47 rfl) s182 ?_
                              refine x_iaload (q231c6 48 rfl) (al2000 _) s187 (ag_l (j1 := 3 + x3) rfl (by omega) (rfl)) s183 ?_
                              obtain ⟨a189, h188, w190, H⟩ := H
                              refine x_cvi (q231c6 49 rfl) rfl oc56 rfl (Nat.le_of_ble_eq_true rfl) ⟨a189, h188, w190, ?_⟩
                              refine x_icmp_eq (q231c6 50 rfl) (fun c191 => ?_) (fun c191 => ?_)
                              · replace H := H.1 c191
                                obtain ⟨s192, H⟩ := H
                                refine x_iinc (q231c17 54 rfl) rfl ⟨Nat.le_of_ble_eq_true rfl, trivial⟩ s192 ?_
                                refine x_goto (q231c17 55 rfl) ?_
                                exact H
                              · replace H := H.2 c191
                                refine x_iconst (q231c6 51 rfl) ?_
                                exact x_iretz (q231c6 52 rfl) (.inl rfl) H
                            · replace H := H.2 c177
                              refine sw_cons (fun c193 => ?_) (fun c193 => ?_)
                              · replace H := H.1 c193
                                obtain ⟨⟨s194, s195, s196, s197, s198, s199, s200, s201⟩, H⟩ := H
                                refine x_aload_n (q231c6 53 rfl) rfl ?_
                                refine x_aload_n (q231c6 54 rfl) rfl ?_
                                refine x_iload_n (q231c6 55 rfl) rfl ?_
                                refine x_iconst (q231c6 56 rfl) ?_
                                refine x_iadd (q231c6 57 rfl) s194 ?_
                                refine x_iaload (q231c6 58 rfl) (al2000 _) s1 (ag_l (j1 := 1 + x3) rfl (by omega) (rfl)) s195 ?_
                                refine x_aload_n (q231c6 59 rfl) rfl ?_
                                refine x_iload_n (q231c7 0 rfl) rfl ?_
                                refine x_iconst (q231c7 1 rfl) ?_
                                refine x_iadd (q231c7 2 rfl) s196 ?_
                                refine x_iaload (q231c7 3 rfl) (al2000 _) s1 (ag_l (j1 := 2 + x3) rfl (by omega) (rfl)) s197 ?_
                                refine x_aload_n (q231c7 4 rfl) rfl ?_
                                refine x_iload_n (q231c7 5 rfl) rfl ?_
                                refine x_iconst (q231c7 6 rfl) ?_
                                refine x_iadd (q231c7 7 rfl) s198 ?_
                                refine x_iaload (q231c7 8 rfl) (al2000 _) s1 (ag_l (j1 := 3 + x3) rfl (by omega) (rfl)) s199 ?_
                                refine x_aload_n (q231c7 9 rfl) rfl ?_
                                refine x_iload_n (q231c7 10 rfl) rfl ?_
                                refine x_iconst (q231c7 11 rfl) ?_
                                refine x_iadd (q231c7 12 rfl) s200 ?_
                                refine x_iaload (q231c7 13 rfl) (al2000 _) s1 (ag_l (j1 := 4 + x3) rfl (by omega) (rfl)) s201 ?_
                                obtain ⟨a203, h202, w204, H⟩ := H
                                refine x_cvi (q231c7 14 rfl) rfl oc0 rfl (Nat.le_of_ble_eq_true rfl) ⟨a203, h202, w204, ?_⟩
                                obtain ⟨s205, H⟩ := H
                                refine x_aload_n (q231c7 15 rfl) rfl ?_
                                refine x_aload_n (q231c7 16 rfl) rfl ?_
                                refine x_iload_n (q231c7 17 rfl) rfl ?_
                                refine x_iconst (q231c7 18 rfl) ?_
                                refine x_iadd (q231c7 19 rfl) s194 ?_
                                refine x_iaload (q231c7 20 rfl) (al2000 _) s205 (ag_l (j1 := 1 + x3) rfl (by omega) (rfl)) s195 ?_
                                refine x_aload_n (q231c7 21 rfl) rfl ?_
                                refine x_iload_n (q231c7 22 rfl) rfl ?_
                                refine x_iconst (q231c7 23 rfl) ?_
                                refine x_iadd (q231c7 24 rfl) s196 ?_
                                refine x_iaload (q231c7 25 rfl) (al2000 _) s205 (ag_l (j1 := 2 + x3) rfl (by omega) (rfl)) s197 ?_
                                refine x_aload_n (q231c7 26 rfl) rfl ?_
                                refine x_iload_n (q231c7 27 rfl) rfl ?_
                                refine x_iconst (q231c7 28 rfl) ?_
                                refine x_iadd (q231c7 29 rfl) s198 ?_
                                refine x_iaload (q231c7 30 rfl) (al2000 _) s205 (ag_l (j1 := 3 + x3) rfl (by omega) (rfl)) s199 ?_
                                refine x_aload_n (q231c7 31 rfl) rfl ?_
                                refine x_iload_n (q231c7 32 rfl) rfl ?_
                                refine x_iconst (q231c7 33 rfl) ?_
                                refine x_iadd (q231c7 34 rfl) s200 ?_
                                refine x_iaload (q231c7 35 rfl) (al2000 _) s205 (ag_l (j1 := 4 + x3) rfl (by omega) (rfl)) s201 ?_
                                obtain ⟨a207, h206, w208, H⟩ := H
                                refine x_cvi (q231c7 36 rfl) rfl oc56 rfl (Nat.le_of_ble_eq_true rfl) ⟨a207, h206, w208, ?_⟩
                                refine x_icmp_eq (q231c7 37 rfl) (fun c209 => ?_) (fun c209 => ?_)
                                · replace H := H.1 c209
                                  obtain ⟨s210, H⟩ := H
                                  refine x_iinc (q231c17 54 rfl) rfl ⟨Nat.le_of_ble_eq_true rfl, trivial⟩ s210 ?_
                                  refine x_goto (q231c17 55 rfl) ?_
                                  exact H
                                · replace H := H.2 c209
                                  refine x_iconst (q231c7 38 rfl) ?_
                                  exact x_iretz (q231c7 39 rfl) (.inl rfl) H
                              · replace H := H.2 c193
                                refine sw_cons (fun c211 => ?_) (fun c211 => ?_)
                                · replace H := H.1 c211
                                  obtain ⟨⟨s212, s213, s214, s215, s216, s217⟩, H⟩ := H
                                  refine x_aload_n (q231c7 40 rfl) rfl ?_
                                  refine x_aload_n (q231c7 41 rfl) rfl ?_
                                  refine x_iload_n (q231c7 42 rfl) rfl ?_
                                  refine x_iconst (q231c7 43 rfl) ?_
                                  refine x_iadd (q231c7 44 rfl) s212 ?_
                                  refine x_iaload (q231c7 45 rfl) (al2000 _) s1 (ag_l (j1 := 1 + x3) rfl (by omega) (rfl)) s213 ?_
                                  refine x_aload_n (q231c7 46 rfl) rfl ?_
                                  refine x_iload_n (q231c7 47 rfl) rfl ?_
                                  refine x_iconst (q231c7 48 rfl) ?_
                                  refine x_iadd (q231c7 49 rfl) s214 ?_
                                  refine x_iaload (q231c7 50 rfl) (al2000 _) s1 (ag_l (j1 := 2 + x3) rfl (by omega) (rfl)) s215 ?_
                                  refine x_i2l (q231c7 51 rfl) ?_
                                  refine x_bipush (q231c7 52 rfl) ?_
                                  refine x_lshl (q231c7 53 rfl) ?_
                                  refine x_aload_n (q231c7 54 rfl) rfl ?_
                                  refine x_iload_n (q231c7 55 rfl) rfl ?_
                                  refine x_iconst (q231c7 56 rfl) ?_
                                  refine x_iadd (q231c7 57 rfl) s216 ?_
                                  refine x_iaload (q231c7 58 rfl) (al2000 _) s1 (ag_l (j1 := 3 + x3) rfl (by omega) (rfl)) s217 ?_
                                  refine x_i2l (q231c7 59 rfl) ?_
                                  refine x_ldc2 (q231c8 0 rfl) ?_
                                  refine x_land (q231c8 1 rfl) ?_
                                  refine x_lor (q231c8 2 rfl) ?_
                                  obtain ⟨a219, h218, w220, H⟩ := H
                                  refine x_cvi (q231c8 3 rfl) rfl oc0 rfl (Nat.le_of_ble_eq_true rfl) ⟨a219, h218, w220, ?_⟩
                                  obtain ⟨s221, H⟩ := H
                                  refine x_aload_n (q231c8 4 rfl) rfl ?_
                                  refine x_aload_n (q231c8 5 rfl) rfl ?_
                                  refine x_iload_n (q231c8 6 rfl) rfl ?_
                                  refine x_iconst (q231c8 7 rfl) ?_
                                  refine x_iadd (q231c8 8 rfl) s212 ?_
                                  refine x_iaload (q231c8 9 rfl) (al2000 _) s221 (ag_l (j1 := 1 + x3) rfl (by omega) (rfl)) s213 ?_
                                  refine x_aload_n (q231c8 10 rfl) rfl ?_
                                  refine x_iload_n (q231c8 11 rfl) rfl ?_
                                  refine x_iconst (q231c8 12 rfl) ?_
                                  refine x_iadd (q231c8 13 rfl) s214 ?_
                                  refine x_iaload (q231c8 14 rfl) (al2000 _) s221 (ag_l (j1 := 2 + x3) rfl (by omega) (rfl)) s215 ?_
                                  refine x_i2l (q231c8 15 rfl) ?_
                                  refine x_bipush (q231c8 16 rfl) ?_
                                  refine x_lshl (q231c8 17 rfl) ?_
                                  refine x_aload_n (q231c8 18 rfl) rfl ?_
                                  refine x_iload_n (q231c8 19 rfl) rfl ?_
                                  refine x_iconst (q231c8 20 rfl) ?_
                                  refine x_iadd (q231c8 21 rfl) s216 ?_
                                  refine x_iaload (q231c8 22 rfl) (al2000 _) s221 (ag_l (j1 := 3 + x3) rfl (by omega) (rfl)) s217 ?_
                                  refine x_i2l (q231c8 23 rfl) ?_
                                  refine x_ldc2 (q231c8 24 rfl) ?_
                                  refine x_land (q231c8 25 rfl) ?_
                                  refine x_lor (q231c8 26 rfl) ?_
                                  obtain ⟨a223, h222, w224, H⟩ := H
                                  refine x_cvi (q231c8 27 rfl) rfl oc56 rfl (Nat.le_of_ble_eq_true rfl) ⟨a223, h222, w224, ?_⟩
                                  refine x_icmp_eq (q231c8 28 rfl) (fun c225 => ?_) (fun c225 => ?_)
                                  · replace H := H.1 c225
                                    obtain ⟨s226, H⟩ := H
                                    refine x_iinc (q231c17 54 rfl) rfl ⟨Nat.le_of_ble_eq_true rfl, trivial⟩ s226 ?_
                                    refine x_goto (q231c17 55 rfl) ?_
                                    exact H
                                  · replace H := H.2 c225
                                    refine x_iconst (q231c8 29 rfl) ?_
                                    exact x_iretz (q231c8 30 rfl) (.inl rfl) H
                                · replace H := H.2 c211
                                  refine sw_cons (fun c227 => ?_) (fun c227 => ?_)
                                  · replace H := H.1 c227
                                    obtain ⟨⟨s228, s229⟩, H⟩ := H
                                    refine x_aload_n (q231c8 31 rfl) rfl ?_
                                    refine x_aload_n (q231c8 32 rfl) rfl ?_
                                    refine x_iload_n (q231c8 33 rfl) rfl ?_
                                    refine x_iconst (q231c8 34 rfl) ?_
                                    refine x_iadd (q231c8 35 rfl) s228 ?_
                                    refine x_iaload (q231c8 36 rfl) (al2000 _) s1 (ag_l (j1 := 1 + x3) rfl (by omega) (rfl)) s229 ?_
                                    obtain ⟨a231, h230, w232, H⟩ := H
                                    refine x_cvi (q231c8 37 rfl) rfl oc0 rfl (Nat.le_of_ble_eq_true rfl) ⟨a231, h230, w232, ?_⟩
                                    obtain ⟨s233, H⟩ := H
                                    refine x_aload_n (q231c8 38 rfl) rfl ?_
                                    refine x_aload_n (q231c8 39 rfl) rfl ?_
                                    refine x_iload_n (q231c8 40 rfl) rfl ?_
                                    refine x_iconst (q231c8 41 rfl) ?_
                                    refine x_iadd (q231c8 42 rfl) s228 ?_
                                    refine x_iaload (q231c8 43 rfl) (al2000 _) s233 (ag_l (j1 := 1 + x3) rfl (by omega) (rfl)) s229 ?_
                                    obtain ⟨a235, h234, w236, H⟩ := H
                                    refine x_cvi (q231c8 44 rfl) rfl oc56 rfl (Nat.le_of_ble_eq_true rfl) ⟨a235, h234, w236, ?_⟩
                                    refine x_icmp_eq (q231c8 45 rfl) (fun c237 => ?_) (fun c237 => ?_)
                                    · replace H := H.1 c237
                                      obtain ⟨s238, H⟩ := H
                                      refine x_iinc (q231c17 54 rfl) rfl ⟨Nat.le_of_ble_eq_true rfl, trivial⟩ s238 ?_
                                      refine x_goto (q231c17 55 rfl) ?_
                                      exact H
                                    · replace H := H.2 c237
                                      refine x_iconst (q231c8 46 rfl) ?_
                                      exact x_iretz (q231c8 47 rfl) (.inl rfl) H
                                  · replace H := H.2 c227
                                    refine sw_cons (fun c239 => ?_) (fun c239 => ?_)
                                    · replace H := H.1 c239
                                      obtain ⟨⟨s240, s241⟩, H⟩ := H
                                      refine x_aload_n (q231c8 48 rfl) rfl ?_
                                      refine x_aload_n (q231c8 49 rfl) rfl ?_
                                      refine x_iload_n (q231c8 50 rfl) rfl ?_
                                      refine x_iconst (q231c8 51 rfl) ?_
                                      refine x_iadd (q231c8 52 rfl) s240 ?_
                                      refine x_iaload (q231c8 53 rfl) (al2000 _) s1 (ag_l (j1 := 1 + x3) rfl (by omega) (rfl)) s241 ?_
                                      obtain ⟨a243, h242, w244, H⟩ := H
                                      refine x_cvi (q231c8 54 rfl) rfl oc0 rfl (Nat.le_of_ble_eq_true rfl) ⟨a243, h242, w244, ?_⟩
                                      obtain ⟨s245, H⟩ := H
                                      refine x_aload_n (q231c8 55 rfl) rfl ?_
                                      refine x_aload_n (q231c8 56 rfl) rfl ?_
                                      refine x_iload_n (q231c8 57 rfl) rfl ?_
                                      refine x_iconst (q231c8 58 rfl) ?_
                                      refine x_iadd (q231c8 59 rfl) s240 ?_
                                      refine x_iaload (q231c9 0 rfl) (al2000 _) s245 (ag_l (j1 := 1 + x3) rfl (by omega) (rfl)) s241 ?_
                                      obtain ⟨a247, h246, w248, H⟩ := H
                                      refine x_cvi (q231c9 1 rfl) rfl oc56 rfl (Nat.le_of_ble_eq_true rfl) ⟨a247, h246, w248, ?_⟩
                                      refine x_icmp_eq (q231c9 2 rfl) (fun c249 => ?_) (fun c249 => ?_)
                                      · replace H := H.1 c249
                                        obtain ⟨s250, H⟩ := H
                                        refine x_iinc (q231c17 54 rfl) rfl ⟨Nat.le_of_ble_eq_true rfl, trivial⟩ s250 ?_
                                        refine x_goto (q231c17 55 rfl) ?_
                                        exact H
                                      · replace H := H.2 c249
                                        refine x_iconst (q231c9 3 rfl) ?_
                                        exact x_iretz (q231c9 4 rfl) (.inl rfl) H
                                    · replace H := H.2 c239
                                      refine sw_cons (fun c251 => ?_) (fun c251 => ?_)
                                      · replace H := H.1 c251
                                        obtain ⟨⟨s252, s253, s254, s255, s256, s257⟩, H⟩ := H
                                        refine x_aload_n (q231c9 5 rfl) rfl ?_
                                        refine x_aload_n (q231c9 6 rfl) rfl ?_
                                        refine x_iload_n (q231c9 7 rfl) rfl ?_
                                        refine x_iconst (q231c9 8 rfl) ?_
                                        refine x_iadd (q231c9 9 rfl) s252 ?_
                                        refine x_iaload (q231c9 10 rfl) (al2000 _) s1 (ag_l (j1 := 1 + x3) rfl (by omega) (rfl)) s253 ?_
                                        refine x_aload_n (q231c9 11 rfl) rfl ?_
                                        refine x_iload_n (q231c9 12 rfl) rfl ?_
                                        refine x_iconst (q231c9 13 rfl) ?_
                                        refine x_iadd (q231c9 14 rfl) s254 ?_
                                        refine x_iaload (q231c9 15 rfl) (al2000 _) s1 (ag_l (j1 := 2 + x3) rfl (by omega) (rfl)) s255 ?_
                                        refine x_aload_n (q231c9 16 rfl) rfl ?_
                                        refine x_iload_n (q231c9 17 rfl) rfl ?_
                                        refine x_iconst (q231c9 18 rfl) ?_
                                        refine x_iadd (q231c9 19 rfl) s256 ?_
                                        refine x_iaload (q231c9 20 rfl) (al2000 _) s1 (ag_l (j1 := 3 + x3) rfl (by omega) (rfl)) s257 ?_
                                        obtain ⟨a259, h258, w260, H⟩ := H
                                        refine x_cvi (q231c9 21 rfl) rfl oc0 rfl (Nat.le_of_ble_eq_true rfl) ⟨a259, h258, w260, ?_⟩
                                        obtain ⟨s261, H⟩ := H
                                        refine x_aload_n (q231c9 22 rfl) rfl ?_
                                        refine x_aload_n (q231c9 23 rfl) rfl ?_
                                        refine x_iload_n (q231c9 24 rfl) rfl ?_
                                        refine x_iconst (q231c9 25 rfl) ?_
                                        refine x_iadd (q231c9 26 rfl) s252 ?_
                                        refine x_iaload (q231c9 27 rfl) (al2000 _) s261 (ag_l (j1 := 1 + x3) rfl (by omega) (rfl)) s253 ?_
                                        refine x_aload_n (q231c9 28 rfl) rfl ?_
                                        refine x_iload_n (q231c9 29 rfl) rfl ?_
                                        refine x_iconst (q231c9 30 rfl) ?_
                                        refine x_iadd (q231c9 31 rfl) s254 ?_
                                        refine x_iaload (q231c9 32 rfl) (al2000 _) s261 (ag_l (j1 := 2 + x3) rfl (by omega) (rfl)) s255 ?_
                                        refine x_aload_n (q231c9 33 rfl) rfl ?_
                                        refine x_iload_n (q231c9 34 rfl) rfl ?_
                                        refine x_iconst (q231c9 35 rfl) ?_
                                        refine x_iadd (q231c9 36 rfl) s256 ?_
                                        refine x_iaload (q231c9 37 rfl) (al2000 _) s261 (ag_l (j1 := 3 + x3) rfl (by omega) (rfl)) s257 ?_
                                        obtain ⟨a263, h262, w264, H⟩ := H
                                        refine x_cvi (q231c9 38 rfl) rfl oc56 rfl (Nat.le_of_ble_eq_true rfl) ⟨a263, h262, w264, ?_⟩
                                        refine x_icmp_eq (q231c9 39 rfl) (fun c265 => ?_) (fun c265 => ?_)
                                        · replace H := H.1 c265
                                          obtain ⟨s266, H⟩ := H
                                          refine x_iinc (q231c17 54 rfl) rfl ⟨Nat.le_of_ble_eq_true rfl, trivial⟩ s266 ?_
                                          refine x_goto (q231c17 55 rfl) ?_
                                          exact H
                                        · replace H := H.2 c265
                                          refine x_iconst (q231c9 40 rfl) ?_
                                          exact x_iretz (q231c9 41 rfl) (.inl rfl) H
                                      · replace H := H.2 c251
                                        refine sw_cons (fun c267 => ?_) (fun c267 => ?_)
                                        · replace H := H.1 c267
                                          obtain ⟨⟨s268, s269, s270, s271, s272, s273⟩, H⟩ := H
                                          refine x_aload_n (q231c9 42 rfl) rfl ?_
                                          refine x_aload_n (q231c9 43 rfl) rfl ?_
                                          refine x_iload_n (q231c9 44 rfl) rfl ?_
                                          refine x_iconst (q231c9 45 rfl) ?_
                                          refine x_iadd (q231c9 46 rfl) s268 ?_
                                          refine x_iaload (q231c9 47 rfl) (al2000 _) s1 (ag_l (j1 := 1 + x3) rfl (by omega) (rfl)) s269 ?_
                                          refine x_aload_n (q231c9 48 rfl) rfl ?_
                                          refine x_iload_n (q231c9 49 rfl) rfl ?_
                                          refine x_iconst (q231c9 50 rfl) ?_
                                          refine x_iadd (q231c9 51 rfl) s270 ?_
                                          refine x_iaload (q231c9 52 rfl) (al2000 _) s1 (ag_l (j1 := 2 + x3) rfl (by omega) (rfl)) s271 ?_
                                          refine x_aload_n (q231c9 53 rfl) rfl ?_
                                          refine x_iload_n (q231c9 54 rfl) rfl ?_
                                          refine x_iconst (q231c9 55 rfl) ?_
                                          refine x_iadd (q231c9 56 rfl) s272 ?_
                                          refine x_iaload (q231c9 57 rfl) (al2000 _) s1 (ag_l (j1 := 3 + x3) rfl (by omega) (rfl)) s273 ?_
                                          obtain ⟨a275, h274, w276, H⟩ := H
                                          refine x_cvi (q231c9 58 rfl) rfl oc0 rfl (Nat.le_of_ble_eq_true rfl) ⟨a275, h274, w276, ?_⟩
                                          obtain ⟨s277, H⟩ := H
                                          refine x_aload_n (q231c9 59 rfl) rfl ?_
                                          refine x_aload_n (q231c10 0 rfl) rfl ?_
                                          refine x_iload_n (q231c10 1 rfl) rfl ?_
                                          refine x_iconst (q231c10 2 rfl) ?_
                                          refine x_iadd (q231c10 3 rfl) s268 ?_
                                          refine x_iaload (q231c10 4 rfl) (al2000 _) s277 (ag_l (j1 := 1 + x3) rfl (by omega) (rfl)) s269 ?_
                                          refine x_aload_n (q231c10 5 rfl) rfl ?_
                                          refine x_iload_n (q231c10 6 rfl) rfl ?_
                                          refine x_iconst (q231c10 7 rfl) ?_
                                          refine x_iadd (q231c10 8 rfl) s270 ?_
                                          refine x_iaload (q231c10 9 rfl) (al2000 _) s277 (ag_l (j1 := 2 + x3) rfl (by omega) (rfl)) s271 ?_
                                          refine x_aload_n (q231c10 10 rfl) rfl ?_
                                          refine x_iload_n (q231c10 11 rfl) rfl ?_
                                          refine x_iconst (q231c10 12 rfl) ?_
                                          refine x_iadd (q231c10 13 rfl) s272 ?_
                                          refine x_iaload (q231c10 14 rfl) (al2000 _) s277 (ag_l (j1 := 3 + x3) rfl (by omega) (rfl)) s273 ?_
                                          obtain ⟨a279, h278, w280, H⟩ := H
                                          refine x_cvi (q231c10 15 rfl) rfl oc56 rfl (Nat.le_of_ble_eq_true rfl) ⟨a279, h278, w280, ?_⟩
                                          refine x_icmp_eq (q231c10 16 rfl) (fun c281 => ?_) (fun c281 => ?_)
                                          · replace H := H.1 c281
                                            obtain ⟨s282, H⟩ := H
                                            refine x_iinc (q231c17 54 rfl) rfl ⟨Nat.le_of_ble_eq_true rfl, trivial⟩ s282 ?_
                                            refine x_goto (q231c17 55 rfl) ?_
                                            exact H
                                          · replace H := H.2 c281
                                            refine x_iconst (q231c10 17 rfl) ?_
                                            exact x_iretz (q231c10 18 rfl) (.inl rfl) H
                                        · replace H := H.2 c267
                                          refine sw_cons (fun c283 => ?_) (fun c283 => ?_)
                                          · replace H := H.1 c283
                                            obtain ⟨⟨s284, s285, s286, s287, s288, s289⟩, H⟩ := H
                                            refine x_aload_n (q231c10 19 rfl) rfl ?_
                                            refine x_aload_n (q231c10 20 rfl) rfl ?_
                                            refine x_iload_n (q231c10 21 rfl) rfl ?_
                                            refine x_iconst (q231c10 22 rfl) ?_
                                            refine x_iadd (q231c10 23 rfl) s284 ?_
                                            refine x_iaload (q231c10 24 rfl) (al2000 _) s1 (ag_l (j1 := 1 + x3) rfl (by omega) (rfl)) s285 ?_
                                            refine x_aload_n (q231c10 25 rfl) rfl ?_
                                            refine x_iload_n (q231c10 26 rfl) rfl ?_
                                            refine x_iconst (q231c10 27 rfl) ?_
                                            refine x_iadd (q231c10 28 rfl) s286 ?_
                                            refine x_iaload (q231c10 29 rfl) (al2000 _) s1 (ag_l (j1 := 2 + x3) rfl (by omega) (rfl)) s287 ?_
                                            refine x_aload_n (q231c10 30 rfl) rfl ?_
                                            refine x_iload_n (q231c10 31 rfl) rfl ?_
                                            refine x_iconst (q231c10 32 rfl) ?_
                                            refine x_iadd (q231c10 33 rfl) s288 ?_
                                            refine x_iaload (q231c10 34 rfl) (al2000 _) s1 (ag_l (j1 := 3 + x3) rfl (by omega) (rfl)) s289 ?_
                                            obtain ⟨a291, h290, w292, H⟩ := H
                                            refine x_cvi (q231c10 35 rfl) rfl oc0 rfl (Nat.le_of_ble_eq_true rfl) ⟨a291, h290, w292, ?_⟩
                                            obtain ⟨s293, H⟩ := H
                                            refine x_aload_n (q231c10 36 rfl) rfl ?_
                                            refine x_aload_n (q231c10 37 rfl) rfl ?_
                                            refine x_iload_n (q231c10 38 rfl) rfl ?_
                                            refine x_iconst (q231c10 39 rfl) ?_
                                            refine x_iadd (q231c10 40 rfl) s284 ?_
                                            refine x_iaload (q231c10 41 rfl) (al2000 _) s293 (ag_l (j1 := 1 + x3) rfl (by omega) (rfl)) s285 ?_
                                            refine x_aload_n (q231c10 42 rfl) rfl ?_
                                            refine x_iload_n (q231c10 43 rfl) rfl ?_
                                            refine x_iconst (q231c10 44 rfl) ?_
                                            refine x_iadd (q231c10 45 rfl) s286 ?_
                                            refine x_iaload (q231c10 46 rfl) (al2000 _) s293 (ag_l (j1 := 2 + x3) rfl (by omega) (rfl)) s287 ?_
                                            refine x_aload_n (q231c10 47 rfl) rfl ?_
                                            refine x_iload_n (q231c10 48 rfl) rfl ?_
                                            refine x_iconst (q231c10 49 rfl) ?_
                                            refine x_iadd (q231c10 50 rfl) s288 ?_
                                            refine x_iaload (q231c10 51 rfl) (al2000 _) s293 (ag_l (j1 := 3 + x3) rfl (by omega) (rfl)) s289 ?_
                                            obtain ⟨a295, h294, w296, H⟩ := H
                                            refine x_cvi (q231c10 52 rfl) rfl oc56 rfl (Nat.le_of_ble_eq_true rfl) ⟨a295, h294, w296, ?_⟩
                                            refine x_icmp_eq (q231c10 53 rfl) (fun c297 => ?_) (fun c297 => ?_)
                                            · replace H := H.1 c297
                                              obtain ⟨s298, H⟩ := H
                                              refine x_iinc (q231c17 54 rfl) rfl ⟨Nat.le_of_ble_eq_true rfl, trivial⟩ s298 ?_
                                              refine x_goto (q231c17 55 rfl) ?_
                                              exact H
                                            · replace H := H.2 c297
                                              refine x_iconst (q231c10 54 rfl) ?_
                                              exact x_iretz (q231c10 55 rfl) (.inl rfl) H
                                          · replace H := H.2 c283
                                            refine sw_cons (fun c299 => ?_) (fun c299 => ?_)
                                            · replace H := H.1 c299
                                              obtain ⟨⟨s300, s301, s302, s303, s304, s305, s306, s307⟩, H⟩ := H
                                              refine x_aload_n (q231c10 56 rfl) rfl ?_
                                              refine x_aload_n (q231c10 57 rfl) rfl ?_
                                              refine x_iload_n (q231c10 58 rfl) rfl ?_
                                              refine x_iconst (q231c10 59 rfl) ?_
                                              refine x_iadd (q231c11 0 rfl) s300 ?_
                                              refine x_iaload (q231c11 1 rfl) (al2000 _) s1 (ag_l (j1 := 1 + x3) rfl (by omega) (rfl)) s301 ?_
                                              refine x_aload_n (q231c11 2 rfl) rfl ?_
                                              refine x_iload_n (q231c11 3 rfl) rfl ?_
                                              refine x_iconst (q231c11 4 rfl) ?_
                                              refine x_iadd (q231c11 5 rfl) s302 ?_
                                              refine x_iaload (q231c11 6 rfl) (al2000 _) s1 (ag_l (j1 := 2 + x3) rfl (by omega) (rfl)) s303 ?_
                                              refine x_aload_n (q231c11 7 rfl) rfl ?_
                                              refine x_iload_n (q231c11 8 rfl) rfl ?_
                                              refine x_iconst (q231c11 9 rfl) ?_
                                              refine x_iadd (q231c11 10 rfl) s304 ?_
                                              refine x_iaload (q231c11 11 rfl) (al2000 _) s1 (ag_l (j1 := 3 + x3) rfl (by omega) (rfl)) s305 ?_
                                              refine x_aload_n (q231c11 12 rfl) rfl ?_
                                              refine x_iload_n (q231c11 13 rfl) rfl ?_
                                              refine x_iconst (q231c11 14 rfl) ?_
                                              refine x_iadd (q231c11 15 rfl) s306 ?_
                                              refine x_iaload (q231c11 16 rfl) (al2000 _) s1 (ag_l (j1 := 4 + x3) rfl (by omega) (rfl)) s307 ?_
                                              obtain ⟨a309, h308, w310, H⟩ := H
                                              refine x_cvi (q231c11 17 rfl) rfl oc0 rfl (Nat.le_of_ble_eq_true rfl) ⟨a309, h308, w310, ?_⟩
                                              obtain ⟨s311, H⟩ := H
                                              refine x_aload_n (q231c11 18 rfl) rfl ?_
                                              refine x_aload_n (q231c11 19 rfl) rfl ?_
                                              refine x_iload_n (q231c11 20 rfl) rfl ?_
                                              refine x_iconst (q231c11 21 rfl) ?_
                                              refine x_iadd (q231c11 22 rfl) s300 ?_
                                              refine x_iaload (q231c11 23 rfl) (al2000 _) s311 (ag_l (j1 := 1 + x3) rfl (by omega) (rfl)) s301 ?_
                                              refine x_aload_n (q231c11 24 rfl) rfl ?_
                                              refine x_iload_n (q231c11 25 rfl) rfl ?_
                                              refine x_iconst (q231c11 26 rfl) ?_
                                              refine x_iadd (q231c11 27 rfl) s302 ?_
                                              refine x_iaload (q231c11 28 rfl) (al2000 _) s311 (ag_l (j1 := 2 + x3) rfl (by omega) (rfl)) s303 ?_
                                              refine x_aload_n (q231c11 29 rfl) rfl ?_
                                              refine x_iload_n (q231c11 30 rfl) rfl ?_
                                              refine x_iconst (q231c11 31 rfl) ?_
                                              refine x_iadd (q231c11 32 rfl) s304 ?_
                                              refine x_iaload (q231c11 33 rfl) (al2000 _) s311 (ag_l (j1 := 3 + x3) rfl (by omega) (rfl)) s305 ?_
                                              refine x_aload_n (q231c11 34 rfl) rfl ?_
                                              refine x_iload_n (q231c11 35 rfl) rfl ?_
                                              refine x_iconst (q231c11 36 rfl) ?_
                                              refine x_iadd (q231c11 37 rfl) s306 ?_
                                              refine x_iaload (q231c11 38 rfl) (al2000 _) s311 (ag_l (j1 := 4 + x3) rfl (by omega) (rfl)) s307 ?_
                                              obtain ⟨a313, h312, w314, H⟩ := H
                                              refine x_cvb (q231c11 39 rfl) rfl oc56 rfl (Nat.le_of_ble_eq_true rfl) ⟨a313, h312, w314, ?_⟩
                                              refine x_icmp_eq (q231c11 40 rfl) (fun c315 => ?_) (fun c315 => ?_)
                                              · replace H := H.1 c315
                                                obtain ⟨s316, H⟩ := H
                                                refine x_iinc (q231c17 54 rfl) rfl ⟨Nat.le_of_ble_eq_true rfl, trivial⟩ s316 ?_
                                                refine x_goto (q231c17 55 rfl) ?_
                                                exact H
                                              · replace H := H.2 c315
                                                refine x_iconst (q231c11 41 rfl) ?_
                                                exact x_iretz (q231c11 42 rfl) (.inl rfl) H
                                            · replace H := H.2 c299
                                              refine sw_cons (fun c317 => ?_) (fun c317 => ?_)
                                              · replace H := H.1 c317
                                                obtain ⟨⟨s318, s319, s320, s321, s322, s323⟩, H⟩ := H
                                                refine x_aload_n (q231c11 43 rfl) rfl ?_
                                                refine x_aload_n (q231c11 44 rfl) rfl ?_
                                                refine x_iload_n (q231c11 45 rfl) rfl ?_
                                                refine x_iconst (q231c11 46 rfl) ?_
                                                refine x_iadd (q231c11 47 rfl) s318 ?_
                                                refine x_iaload (q231c11 48 rfl) (al2000 _) s1 (ag_l (j1 := 1 + x3) rfl (by omega) (rfl)) s319 ?_
                                                refine x_aload_n (q231c11 49 rfl) rfl ?_
                                                refine x_iload_n (q231c11 50 rfl) rfl ?_
                                                refine x_iconst (q231c11 51 rfl) ?_
                                                refine x_iadd (q231c11 52 rfl) s320 ?_
                                                refine x_iaload (q231c11 53 rfl) (al2000 _) s1 (ag_l (j1 := 2 + x3) rfl (by omega) (rfl)) s321 ?_
                                                refine x_aload_n (q231c11 54 rfl) rfl ?_
                                                refine x_iload_n (q231c11 55 rfl) rfl ?_
                                                refine x_iconst (q231c11 56 rfl) ?_
                                                refine x_iadd (q231c11 57 rfl) s322 ?_
                                                refine x_iaload (q231c11 58 rfl) (al2000 _) s1 (ag_l (j1 := 3 + x3) rfl (by omega) (rfl)) s323 ?_
                                                obtain ⟨a325, h324, w326, H⟩ := H
                                                refine x_cvi (q231c11 59 rfl) rfl oc0 rfl (Nat.le_of_ble_eq_true rfl) ⟨a325, h324, w326, ?_⟩
                                                obtain ⟨s327, H⟩ := H
                                                refine x_aload_n (q231c12 0 rfl) rfl ?_
                                                refine x_aload_n (q231c12 1 rfl) rfl ?_
                                                refine x_iload_n (q231c12 2 rfl) rfl ?_
                                                refine x_iconst (q231c12 3 rfl) ?_
                                                refine x_iadd (q231c12 4 rfl) s318 ?_
                                                refine x_iaload (q231c12 5 rfl) (al2000 _) s327 (ag_l (j1 := 1 + x3) rfl (by omega) (rfl)) s319 ?_
                                                refine x_aload_n (q231c12 6 rfl) rfl ?_
                                                refine x_iload_n (q231c12 7 rfl) rfl ?_
                                                refine x_iconst (q231c12 8 rfl) ?_
                                                refine x_iadd (q231c12 9 rfl) s320 ?_
                                                refine x_iaload (q231c12 10 rfl) (al2000 _) s327 (ag_l (j1 := 2 + x3) rfl (by omega) (rfl)) s321 ?_
                                                refine x_aload_n (q231c12 11 rfl) rfl ?_
                                                refine x_iload_n (q231c12 12 rfl) rfl ?_
                                                refine x_iconst (q231c12 13 rfl) ?_
                                                refine x_iadd (q231c12 14 rfl) s322 ?_
                                                refine x_iaload (q231c12 15 rfl) (al2000 _) s327 (ag_l (j1 := 3 + x3) rfl (by omega) (rfl)) s323 ?_
                                                obtain ⟨a329, h328, w330, H⟩ := H
                                                refine x_cvi (q231c12 16 rfl) rfl oc56 rfl (Nat.le_of_ble_eq_true rfl) ⟨a329, h328, w330, ?_⟩
                                                refine x_icmp_eq (q231c12 17 rfl) (fun c331 => ?_) (fun c331 => ?_)
                                                · replace H := H.1 c331
                                                  obtain ⟨s332, H⟩ := H
                                                  refine x_iinc (q231c17 54 rfl) rfl ⟨Nat.le_of_ble_eq_true rfl, trivial⟩ s332 ?_
                                                  refine x_goto (q231c17 55 rfl) ?_
                                                  exact H
                                                · replace H := H.2 c331
                                                  refine x_iconst (q231c12 18 rfl) ?_
                                                  exact x_iretz (q231c12 19 rfl) (.inl rfl) H
                                              · replace H := H.2 c317
                                                refine sw_cons (fun c333 => ?_) (fun c333 => ?_)
                                                · replace H := H.1 c333
                                                  obtain ⟨⟨s334, s335, s336, s337⟩, H⟩ := H
                                                  refine x_aload_n (q231c12 20 rfl) rfl ?_
                                                  refine x_aload_n (q231c12 21 rfl) rfl ?_
                                                  refine x_iload_n (q231c12 22 rfl) rfl ?_
                                                  refine x_iconst (q231c12 23 rfl) ?_
                                                  refine x_iadd (q231c12 24 rfl) s334 ?_
                                                  refine x_iaload (q231c12 25 rfl) (al2000 _) s1 (ag_l (j1 := 1 + x3) rfl (by omega) (rfl)) s335 ?_
                                                  refine x_aload_n (q231c12 26 rfl) rfl ?_
                                                  refine x_iload_n (q231c12 27 rfl) rfl ?_
                                                  refine x_iconst (q231c12 28 rfl) ?_
                                                  refine x_iadd (q231c12 29 rfl) s336 ?_
                                                  refine x_iaload (q231c12 30 rfl) (al2000 _) s1 (ag_l (j1 := 2 + x3) rfl (by omega) (rfl)) s337 ?_
                                                  obtain ⟨a339, h338, w340, H⟩ := H
                                                  refine x_cvi (q231c12 31 rfl) rfl oc0 rfl (Nat.le_of_ble_eq_true rfl) ⟨a339, h338, w340, ?_⟩
                                                  obtain ⟨s341, H⟩ := H
                                                  refine x_aload_n (q231c12 32 rfl) rfl ?_
                                                  refine x_aload_n (q231c12 33 rfl) rfl ?_
                                                  refine x_iload_n (q231c12 34 rfl) rfl ?_
                                                  refine x_iconst (q231c12 35 rfl) ?_
                                                  refine x_iadd (q231c12 36 rfl) s334 ?_
                                                  refine x_iaload (q231c12 37 rfl) (al2000 _) s341 (ag_l (j1 := 1 + x3) rfl (by omega) (rfl)) s335 ?_
                                                  refine x_aload_n (q231c12 38 rfl) rfl ?_
                                                  refine x_iload_n (q231c12 39 rfl) rfl ?_
                                                  refine x_iconst (q231c12 40 rfl) ?_
                                                  refine x_iadd (q231c12 41 rfl) s336 ?_
                                                  refine x_iaload (q231c12 42 rfl) (al2000 _) s341 (ag_l (j1 := 2 + x3) rfl (by omega) (rfl)) s337 ?_
                                                  obtain ⟨a343, h342, w344, H⟩ := H
                                                  refine x_cvi (q231c12 43 rfl) rfl oc56 rfl (Nat.le_of_ble_eq_true rfl) ⟨a343, h342, w344, ?_⟩
                                                  refine x_icmp_eq (q231c12 44 rfl) (fun c345 => ?_) (fun c345 => ?_)
                                                  · replace H := H.1 c345
                                                    obtain ⟨s346, H⟩ := H
                                                    refine x_iinc (q231c17 54 rfl) rfl ⟨Nat.le_of_ble_eq_true rfl, trivial⟩ s346 ?_
                                                    refine x_goto (q231c17 55 rfl) ?_
                                                    exact H
                                                  · replace H := H.2 c345
                                                    refine x_iconst (q231c12 45 rfl) ?_
                                                    exact x_iretz (q231c12 46 rfl) (.inl rfl) H
                                                · replace H := H.2 c333
                                                  refine sw_cons (fun c347 => ?_) (fun c347 => ?_)
                                                  · replace H := H.1 c347
                                                    obtain ⟨⟨s348, s349, s350, s351⟩, H⟩ := H
                                                    refine x_aload_n (q231c12 47 rfl) rfl ?_
                                                    refine x_aload_n (q231c12 48 rfl) rfl ?_
                                                    refine x_iload_n (q231c12 49 rfl) rfl ?_
                                                    refine x_iconst (q231c12 50 rfl) ?_
                                                    refine x_iadd (q231c12 51 rfl) s348 ?_
                                                    refine x_iaload (q231c12 52 rfl) (al2000 _) s1 (ag_l (j1 := 1 + x3) rfl (by omega) (rfl)) s349 ?_
                                                    refine x_aload_n (q231c12 53 rfl) rfl ?_
                                                    refine x_iload_n (q231c12 54 rfl) rfl ?_
                                                    refine x_iconst (q231c12 55 rfl) ?_
                                                    refine x_iadd (q231c12 56 rfl) s350 ?_
                                                    refine x_iaload (q231c12 57 rfl) (al2000 _) s1 (ag_l (j1 := 2 + x3) rfl (by omega) (rfl)) s351 ?_
                                                    obtain ⟨a353, h352, w354, H⟩ := H
                                                    refine x_cvi (q231c12 58 rfl) rfl oc0 rfl (Nat.le_of_ble_eq_true rfl) ⟨a353, h352, w354, ?_⟩
                                                    obtain ⟨s355, H⟩ := H
                                                    refine x_aload_n (q231c12 59 rfl) rfl ?_
                                                    refine x_aload_n (q231c13 0 rfl) rfl ?_
                                                    refine x_iload_n (q231c13 1 rfl) rfl ?_
                                                    refine x_iconst (q231c13 2 rfl) ?_
                                                    refine x_iadd (q231c13 3 rfl) s348 ?_
                                                    refine x_iaload (q231c13 4 rfl) (al2000 _) s355 (ag_l (j1 := 1 + x3) rfl (by omega) (rfl)) s349 ?_
                                                    refine x_aload_n (q231c13 5 rfl) rfl ?_
                                                    refine x_iload_n (q231c13 6 rfl) rfl ?_
                                                    refine x_iconst (q231c13 7 rfl) ?_
                                                    refine x_iadd (q231c13 8 rfl) s350 ?_
                                                    refine x_iaload (q231c13 9 rfl) (al2000 _) s355 (ag_l (j1 := 2 + x3) rfl (by omega) (rfl)) s351 ?_
                                                    obtain ⟨a357, h356, w358, H⟩ := H
                                                    refine x_cvi (q231c13 10 rfl) rfl oc56 rfl (Nat.le_of_ble_eq_true rfl) ⟨a357, h356, w358, ?_⟩
                                                    refine x_icmp_eq (q231c13 11 rfl) (fun c359 => ?_) (fun c359 => ?_)
                                                    · replace H := H.1 c359
                                                      obtain ⟨s360, H⟩ := H
                                                      refine x_iinc (q231c17 54 rfl) rfl ⟨Nat.le_of_ble_eq_true rfl, trivial⟩ s360 ?_
                                                      refine x_goto (q231c17 55 rfl) ?_
                                                      exact H
                                                    · replace H := H.2 c359
                                                      refine x_iconst (q231c13 12 rfl) ?_
                                                      exact x_iretz (q231c13 13 rfl) (.inl rfl) H
                                                  · replace H := H.2 c347
                                                    refine sw_cons (fun c361 => ?_) (fun c361 => ?_)
                                                    · replace H := H.1 c361
                                                      obtain ⟨⟨s362, s363⟩, H⟩ := H
                                                      refine x_aload_n (q231c13 14 rfl) rfl ?_
                                                      refine x_aload_n (q231c13 15 rfl) rfl ?_
                                                      refine x_iload_n (q231c13 16 rfl) rfl ?_
                                                      refine x_iconst (q231c13 17 rfl) ?_
                                                      refine x_iadd (q231c13 18 rfl) s362 ?_
                                                      refine x_iaload (q231c13 19 rfl) (al2000 _) s1 (ag_l (j1 := 1 + x3) rfl (by omega) (rfl)) s363 ?_
                                                      obtain ⟨a365, h364, w366, H⟩ := H
                                                      refine x_cvi (q231c13 20 rfl) rfl oc0 rfl (Nat.le_of_ble_eq_true rfl) ⟨a365, h364, w366, ?_⟩
                                                      obtain ⟨s367, H⟩ := H
                                                      refine x_aload_n (q231c13 21 rfl) rfl ?_
                                                      refine x_aload_n (q231c13 22 rfl) rfl ?_
                                                      refine x_iload_n (q231c13 23 rfl) rfl ?_
                                                      refine x_iconst (q231c13 24 rfl) ?_
                                                      refine x_iadd (q231c13 25 rfl) s362 ?_
                                                      refine x_iaload (q231c13 26 rfl) (al2000 _) s367 (ag_l (j1 := 1 + x3) rfl (by omega) (rfl)) s363 ?_
                                                      obtain ⟨a369, h368, w370, H⟩ := H
                                                      refine x_cvi (q231c13 27 rfl) rfl oc56 rfl (Nat.le_of_ble_eq_true rfl) ⟨a369, h368, w370, ?_⟩
                                                      refine x_icmp_eq (q231c13 28 rfl) (fun c371 => ?_) (fun c371 => ?_)
                                                      · replace H := H.1 c371
                                                        obtain ⟨s372, H⟩ := H
                                                        refine x_iinc (q231c17 54 rfl) rfl ⟨Nat.le_of_ble_eq_true rfl, trivial⟩ s372 ?_
                                                        refine x_goto (q231c17 55 rfl) ?_
                                                        exact H
                                                      · replace H := H.2 c371
                                                        refine x_iconst (q231c13 29 rfl) ?_
                                                        exact x_iretz (q231c13 30 rfl) (.inl rfl) H
                                                    · replace H := H.2 c361
                                                      refine sw_cons (fun c373 => ?_) (fun c373 => ?_)
                                                      · replace H := H.1 c373
                                                        obtain ⟨⟨s374, s375, s376, s377⟩, H⟩ := H
                                                        refine x_aload_n (q231c13 31 rfl) rfl ?_
                                                        refine x_aload_n (q231c13 32 rfl) rfl ?_
                                                        refine x_iload_n (q231c13 33 rfl) rfl ?_
                                                        refine x_iconst (q231c13 34 rfl) ?_
                                                        refine x_iadd (q231c13 35 rfl) s374 ?_
                                                        refine x_iaload (q231c13 36 rfl) (al2000 _) s1 (ag_l (j1 := 1 + x3) rfl (by omega) (rfl)) s375 ?_
                                                        refine x_aload_n (q231c13 37 rfl) rfl ?_
                                                        refine x_iload_n (q231c13 38 rfl) rfl ?_
                                                        refine x_iconst (q231c13 39 rfl) ?_
                                                        refine x_iadd (q231c13 40 rfl) s376 ?_
                                                        refine x_iaload (q231c13 41 rfl) (al2000 _) s1 (ag_l (j1 := 2 + x3) rfl (by omega) (rfl)) s377 ?_
                                                        obtain ⟨a379, h378, w380, H⟩ := H
                                                        refine x_cvi (q231c13 42 rfl) rfl oc0 rfl (Nat.le_of_ble_eq_true rfl) ⟨a379, h378, w380, ?_⟩
                                                        obtain ⟨s381, H⟩ := H
                                                        refine x_aload_n (q231c13 43 rfl) rfl ?_
                                                        refine x_aload_n (q231c13 44 rfl) rfl ?_
                                                        refine x_iload_n (q231c13 45 rfl) rfl ?_
                                                        refine x_iconst (q231c13 46 rfl) ?_
                                                        refine x_iadd (q231c13 47 rfl) s374 ?_
                                                        refine x_iaload (q231c13 48 rfl) (al2000 _) s381 (ag_l (j1 := 1 + x3) rfl (by omega) (rfl)) s375 ?_
                                                        refine x_aload_n (q231c13 49 rfl) rfl ?_
                                                        refine x_iload_n (q231c13 50 rfl) rfl ?_
                                                        refine x_iconst (q231c13 51 rfl) ?_
                                                        refine x_iadd (q231c13 52 rfl) s376 ?_
                                                        refine x_iaload (q231c13 53 rfl) (al2000 _) s381 (ag_l (j1 := 2 + x3) rfl (by omega) (rfl)) s377 ?_
                                                        obtain ⟨a383, h382, w384, H⟩ := H
                                                        refine x_cvi (q231c13 54 rfl) rfl oc56 rfl (Nat.le_of_ble_eq_true rfl) ⟨a383, h382, w384, ?_⟩
                                                        refine x_icmp_eq (q231c13 55 rfl) (fun c385 => ?_) (fun c385 => ?_)
                                                        · replace H := H.1 c385
                                                          obtain ⟨s386, H⟩ := H
                                                          refine x_iinc (q231c17 54 rfl) rfl ⟨Nat.le_of_ble_eq_true rfl, trivial⟩ s386 ?_
                                                          refine x_goto (q231c17 55 rfl) ?_
                                                          exact H
                                                        · replace H := H.2 c385
                                                          refine x_iconst (q231c13 56 rfl) ?_
                                                          exact x_iretz (q231c13 57 rfl) (.inl rfl) H
                                                      · replace H := H.2 c373
                                                        refine sw_cons (fun c387 => ?_) (fun c387 => ?_)
                                                        · replace H := H.1 c387
                                                          obtain ⟨⟨s388, s389, s390, s391, s392, s393⟩, H⟩ := H
                                                          refine x_aload_n (q231c13 58 rfl) rfl ?_
                                                          refine x_aload_n (q231c13 59 rfl) rfl ?_
                                                          refine x_iload_n (q231c14 0 rfl) rfl ?_
                                                          refine x_iconst (q231c14 1 rfl) ?_
                                                          refine x_iadd (q231c14 2 rfl) s388 ?_
                                                          refine x_iaload (q231c14 3 rfl) (al2000 _) s1 (ag_l (j1 := 1 + x3) rfl (by omega) (rfl)) s389 ?_
                                                          refine x_aload_n (q231c14 4 rfl) rfl ?_
                                                          refine x_iload_n (q231c14 5 rfl) rfl ?_
                                                          refine x_iconst (q231c14 6 rfl) ?_
                                                          refine x_iadd (q231c14 7 rfl) s390 ?_
                                                          refine x_iaload (q231c14 8 rfl) (al2000 _) s1 (ag_l (j1 := 2 + x3) rfl (by omega) (rfl)) s391 ?_
                                                          refine x_aload_n (q231c14 9 rfl) rfl ?_
                                                          refine x_iload_n (q231c14 10 rfl) rfl ?_
                                                          refine x_iconst (q231c14 11 rfl) ?_
                                                          refine x_iadd (q231c14 12 rfl) s392 ?_
                                                          refine x_iaload (q231c14 13 rfl) (al2000 _) s1 (ag_l (j1 := 3 + x3) rfl (by omega) (rfl)) s393 ?_
                                                          obtain ⟨a395, h394, w396, H⟩ := H
                                                          refine x_cvi (q231c14 14 rfl) rfl oc0 rfl (Nat.le_of_ble_eq_true rfl) ⟨a395, h394, w396, ?_⟩
                                                          obtain ⟨s397, H⟩ := H
                                                          refine x_aload_n (q231c14 15 rfl) rfl ?_
                                                          refine x_aload_n (q231c14 16 rfl) rfl ?_
                                                          refine x_iload_n (q231c14 17 rfl) rfl ?_
                                                          refine x_iconst (q231c14 18 rfl) ?_
                                                          refine x_iadd (q231c14 19 rfl) s388 ?_
                                                          refine x_iaload (q231c14 20 rfl) (al2000 _) s397 (ag_l (j1 := 1 + x3) rfl (by omega) (rfl)) s389 ?_
                                                          refine x_aload_n (q231c14 21 rfl) rfl ?_
                                                          refine x_iload_n (q231c14 22 rfl) rfl ?_
                                                          refine x_iconst (q231c14 23 rfl) ?_
                                                          refine x_iadd (q231c14 24 rfl) s390 ?_
                                                          refine x_iaload (q231c14 25 rfl) (al2000 _) s397 (ag_l (j1 := 2 + x3) rfl (by omega) (rfl)) s391 ?_
                                                          refine x_aload_n (q231c14 26 rfl) rfl ?_
                                                          refine x_iload_n (q231c14 27 rfl) rfl ?_
                                                          refine x_iconst (q231c14 28 rfl) ?_
                                                          refine x_iadd (q231c14 29 rfl) s392 ?_
                                                          refine x_iaload (q231c14 30 rfl) (al2000 _) s397 (ag_l (j1 := 3 + x3) rfl (by omega) (rfl)) s393 ?_
                                                          obtain ⟨a399, h398, w400, H⟩ := H
                                                          refine x_cvi (q231c14 31 rfl) rfl oc56 rfl (Nat.le_of_ble_eq_true rfl) ⟨a399, h398, w400, ?_⟩
                                                          refine x_icmp_eq (q231c14 32 rfl) (fun c401 => ?_) (fun c401 => ?_)
                                                          · replace H := H.1 c401
                                                            obtain ⟨s402, H⟩ := H
                                                            refine x_iinc (q231c17 54 rfl) rfl ⟨Nat.le_of_ble_eq_true rfl, trivial⟩ s402 ?_
                                                            refine x_goto (q231c17 55 rfl) ?_
                                                            exact H
                                                          · replace H := H.2 c401
                                                            refine x_iconst (q231c14 33 rfl) ?_
                                                            exact x_iretz (q231c14 34 rfl) (.inl rfl) H
                                                        · replace H := H.2 c387
                                                          refine sw_cons (fun c403 => ?_) (fun c403 => ?_)
                                                          · replace H := H.1 c403
                                                            obtain ⟨⟨s404, s405, s406, s407⟩, H⟩ := H
                                                            refine x_aload_n (q231c14 35 rfl) rfl ?_
                                                            refine x_aload_n (q231c14 36 rfl) rfl ?_
                                                            refine x_iload_n (q231c14 37 rfl) rfl ?_
                                                            refine x_iconst (q231c14 38 rfl) ?_
                                                            refine x_iadd (q231c14 39 rfl) s404 ?_
                                                            refine x_iaload (q231c14 40 rfl) (al2000 _) s1 (ag_l (j1 := 1 + x3) rfl (by omega) (rfl)) s405 ?_
                                                            refine x_aload_n (q231c14 41 rfl) rfl ?_
                                                            refine x_iload_n (q231c14 42 rfl) rfl ?_
                                                            refine x_iconst (q231c14 43 rfl) ?_
                                                            refine x_iadd (q231c14 44 rfl) s406 ?_
                                                            refine x_iaload (q231c14 45 rfl) (al2000 _) s1 (ag_l (j1 := 2 + x3) rfl (by omega) (rfl)) s407 ?_
                                                            obtain ⟨a409, h408, w410, H⟩ := H
                                                            refine x_cvi (q231c14 46 rfl) rfl oc0 rfl (Nat.le_of_ble_eq_true rfl) ⟨a409, h408, w410, ?_⟩
                                                            obtain ⟨s411, H⟩ := H
                                                            refine x_aload_n (q231c14 47 rfl) rfl ?_
                                                            refine x_aload_n (q231c14 48 rfl) rfl ?_
                                                            refine x_iload_n (q231c14 49 rfl) rfl ?_
                                                            refine x_iconst (q231c14 50 rfl) ?_
                                                            refine x_iadd (q231c14 51 rfl) s404 ?_
                                                            refine x_iaload (q231c14 52 rfl) (al2000 _) s411 (ag_l (j1 := 1 + x3) rfl (by omega) (rfl)) s405 ?_
                                                            refine x_aload_n (q231c14 53 rfl) rfl ?_
                                                            refine x_iload_n (q231c14 54 rfl) rfl ?_
                                                            refine x_iconst (q231c14 55 rfl) ?_
                                                            refine x_iadd (q231c14 56 rfl) s406 ?_
                                                            refine x_iaload (q231c14 57 rfl) (al2000 _) s411 (ag_l (j1 := 2 + x3) rfl (by omega) (rfl)) s407 ?_
                                                            obtain ⟨a413, h412, w414, H⟩ := H
                                                            refine x_cvi (q231c14 58 rfl) rfl oc56 rfl (Nat.le_of_ble_eq_true rfl) ⟨a413, h412, w414, ?_⟩
                                                            refine x_icmp_eq (q231c14 59 rfl) (fun c415 => ?_) (fun c415 => ?_)
                                                            · replace H := H.1 c415
                                                              obtain ⟨s416, H⟩ := H
                                                              refine x_iinc (q231c17 54 rfl) rfl ⟨Nat.le_of_ble_eq_true rfl, trivial⟩ s416 ?_
                                                              refine x_goto (q231c17 55 rfl) ?_
                                                              exact H
                                                            · replace H := H.2 c415
                                                              refine x_iconst (q231c15 0 rfl) ?_
                                                              exact x_iretz (q231c15 1 rfl) (.inl rfl) H
                                                          · replace H := H.2 c403
                                                            refine sw_cons (fun c417 => ?_) (fun c417 => ?_)
                                                            · replace H := H.1 c417
                                                              obtain ⟨⟨s418, s419⟩, H⟩ := H
                                                              refine x_aload_n (q231c15 2 rfl) rfl ?_
                                                              refine x_aload_n (q231c15 3 rfl) rfl ?_
                                                              refine x_iload_n (q231c15 4 rfl) rfl ?_
                                                              refine x_iconst (q231c15 5 rfl) ?_
                                                              refine x_iadd (q231c15 6 rfl) s418 ?_
                                                              refine x_iaload (q231c15 7 rfl) (al2000 _) s1 (ag_l (j1 := 1 + x3) rfl (by omega) (rfl)) s419 ?_
                                                              obtain ⟨a421, h420, w422, H⟩ := H
                                                              refine x_cvi (q231c15 8 rfl) rfl oc0 rfl (Nat.le_of_ble_eq_true rfl) ⟨a421, h420, w422, ?_⟩
                                                              obtain ⟨s423, H⟩ := H
                                                              refine x_aload_n (q231c15 9 rfl) rfl ?_
                                                              refine x_aload_n (q231c15 10 rfl) rfl ?_
                                                              refine x_iload_n (q231c15 11 rfl) rfl ?_
                                                              refine x_iconst (q231c15 12 rfl) ?_
                                                              refine x_iadd (q231c15 13 rfl) s418 ?_
                                                              refine x_iaload (q231c15 14 rfl) (al2000 _) s423 (ag_l (j1 := 1 + x3) rfl (by omega) (rfl)) s419 ?_
                                                              obtain ⟨a425, h424, w426, H⟩ := H
                                                              refine x_cvi (q231c15 15 rfl) rfl oc56 rfl (Nat.le_of_ble_eq_true rfl) ⟨a425, h424, w426, ?_⟩
                                                              refine x_icmp_eq (q231c15 16 rfl) (fun c427 => ?_) (fun c427 => ?_)
                                                              · replace H := H.1 c427
                                                                obtain ⟨s428, H⟩ := H
                                                                refine x_iinc (q231c17 54 rfl) rfl ⟨Nat.le_of_ble_eq_true rfl, trivial⟩ s428 ?_
                                                                refine x_goto (q231c17 55 rfl) ?_
                                                                exact H
                                                              · replace H := H.2 c427
                                                                refine x_iconst (q231c15 17 rfl) ?_
                                                                exact x_iretz (q231c15 18 rfl) (.inl rfl) H
                                                            · replace H := H.2 c417
                                                              refine sw_cons (fun c429 => ?_) (fun c429 => ?_)
                                                              · replace H := H.1 c429
                                                                obtain ⟨⟨s430, s431, s432, s433, s434, s435⟩, H⟩ := H
                                                                refine x_aload_n (q231c15 19 rfl) rfl ?_
                                                                refine x_aload_n (q231c15 20 rfl) rfl ?_
                                                                refine x_iload_n (q231c15 21 rfl) rfl ?_
                                                                refine x_iconst (q231c15 22 rfl) ?_
                                                                refine x_iadd (q231c15 23 rfl) s430 ?_
                                                                refine x_iaload (q231c15 24 rfl) (al2000 _) s1 (ag_l (j1 := 1 + x3) rfl (by omega) (rfl)) s431 ?_
                                                                refine x_aload_n (q231c15 25 rfl) rfl ?_
                                                                refine x_iload_n (q231c15 26 rfl) rfl ?_
                                                                refine x_iconst (q231c15 27 rfl) ?_
                                                                refine x_iadd (q231c15 28 rfl) s432 ?_
                                                                refine x_iaload (q231c15 29 rfl) (al2000 _) s1 (ag_l (j1 := 2 + x3) rfl (by omega) (rfl)) s433 ?_
                                                                refine x_aload_n (q231c15 30 rfl) rfl ?_
                                                                refine x_iload_n (q231c15 31 rfl) rfl ?_
                                                                refine x_iconst (q231c15 32 rfl) ?_
                                                                refine x_iadd (q231c15 33 rfl) s434 ?_
                                                                refine x_iaload (q231c15 34 rfl) (al2000 _) s1 (ag_l (j1 := 3 + x3) rfl (by omega) (rfl)) s435 ?_
                                                                obtain ⟨a437, h436, w438, H⟩ := H
                                                                refine x_cvi (q231c15 35 rfl) rfl oc0 rfl (Nat.le_of_ble_eq_true rfl) ⟨a437, h436, w438, ?_⟩
                                                                obtain ⟨s439, H⟩ := H
                                                                refine x_aload_n (q231c15 36 rfl) rfl ?_
                                                                refine x_aload_n (q231c15 37 rfl) rfl ?_
                                                                refine x_iload_n (q231c15 38 rfl) rfl ?_
                                                                refine x_iconst (q231c15 39 rfl) ?_
                                                                refine x_iadd (q231c15 40 rfl) s430 ?_
                                                                refine x_iaload (q231c15 41 rfl) (al2000 _) s439 (ag_l (j1 := 1 + x3) rfl (by omega) (rfl)) s431 ?_
                                                                refine x_aload_n (q231c15 42 rfl) rfl ?_
                                                                refine x_iload_n (q231c15 43 rfl) rfl ?_
                                                                refine x_iconst (q231c15 44 rfl) ?_
                                                                refine x_iadd (q231c15 45 rfl) s432 ?_
                                                                refine x_iaload (q231c15 46 rfl) (al2000 _) s439 (ag_l (j1 := 2 + x3) rfl (by omega) (rfl)) s433 ?_
                                                                refine x_aload_n (q231c15 47 rfl) rfl ?_
                                                                refine x_iload_n (q231c15 48 rfl) rfl ?_
                                                                refine x_iconst (q231c15 49 rfl) ?_
                                                                refine x_iadd (q231c15 50 rfl) s434 ?_
                                                                refine x_iaload (q231c15 51 rfl) (al2000 _) s439 (ag_l (j1 := 3 + x3) rfl (by omega) (rfl)) s435 ?_
                                                                obtain ⟨a441, h440, w442, H⟩ := H
                                                                refine x_cvi (q231c15 52 rfl) rfl oc56 rfl (Nat.le_of_ble_eq_true rfl) ⟨a441, h440, w442, ?_⟩
                                                                refine x_icmp_eq (q231c15 53 rfl) (fun c443 => ?_) (fun c443 => ?_)
                                                                · replace H := H.1 c443
                                                                  obtain ⟨s444, H⟩ := H
                                                                  refine x_iinc (q231c17 54 rfl) rfl ⟨Nat.le_of_ble_eq_true rfl, trivial⟩ s444 ?_
                                                                  refine x_goto (q231c17 55 rfl) ?_
                                                                  exact H
                                                                · replace H := H.2 c443
                                                                  refine x_iconst (q231c15 54 rfl) ?_
                                                                  exact x_iretz (q231c15 55 rfl) (.inl rfl) H
                                                              · replace H := H.2 c429
                                                                refine sw_cons (fun c445 => ?_) (fun c445 => ?_)
                                                                · replace H := H.1 c445
                                                                  obtain ⟨⟨s446, s447, s448, s449, s450, s451⟩, H⟩ := H
                                                                  refine x_aload_n (q231c15 56 rfl) rfl ?_
                                                                  refine x_aload_n (q231c15 57 rfl) rfl ?_
                                                                  refine x_iload_n (q231c15 58 rfl) rfl ?_
                                                                  refine x_iconst (q231c15 59 rfl) ?_
                                                                  refine x_iadd (q231c16 0 rfl) s446 ?_
                                                                  refine x_iaload (q231c16 1 rfl) (al2000 _) s1 (ag_l (j1 := 1 + x3) rfl (by omega) (rfl)) s447 ?_
                                                                  refine x_aload_n (q231c16 2 rfl) rfl ?_
                                                                  refine x_iload_n (q231c16 3 rfl) rfl ?_
                                                                  refine x_iconst (q231c16 4 rfl) ?_
                                                                  refine x_iadd (q231c16 5 rfl) s448 ?_
                                                                  refine x_iaload (q231c16 6 rfl) (al2000 _) s1 (ag_l (j1 := 2 + x3) rfl (by omega) (rfl)) s449 ?_
                                                                  refine x_aload_n (q231c16 7 rfl) rfl ?_
                                                                  refine x_iload_n (q231c16 8 rfl) rfl ?_
                                                                  refine x_iconst (q231c16 9 rfl) ?_
                                                                  refine x_iadd (q231c16 10 rfl) s450 ?_
                                                                  refine x_iaload (q231c16 11 rfl) (al2000 _) s1 (ag_l (j1 := 3 + x3) rfl (by omega) (rfl)) s451 ?_
                                                                  obtain ⟨a453, h452, w454, H⟩ := H
                                                                  refine x_cvi (q231c16 12 rfl) rfl oc0 rfl (Nat.le_of_ble_eq_true rfl) ⟨a453, h452, w454, ?_⟩
                                                                  obtain ⟨s455, H⟩ := H
                                                                  refine x_aload_n (q231c16 13 rfl) rfl ?_
                                                                  refine x_aload_n (q231c16 14 rfl) rfl ?_
                                                                  refine x_iload_n (q231c16 15 rfl) rfl ?_
                                                                  refine x_iconst (q231c16 16 rfl) ?_
                                                                  refine x_iadd (q231c16 17 rfl) s446 ?_
                                                                  refine x_iaload (q231c16 18 rfl) (al2000 _) s455 (ag_l (j1 := 1 + x3) rfl (by omega) (rfl)) s447 ?_
                                                                  refine x_aload_n (q231c16 19 rfl) rfl ?_
                                                                  refine x_iload_n (q231c16 20 rfl) rfl ?_
                                                                  refine x_iconst (q231c16 21 rfl) ?_
                                                                  refine x_iadd (q231c16 22 rfl) s448 ?_
                                                                  refine x_iaload (q231c16 23 rfl) (al2000 _) s455 (ag_l (j1 := 2 + x3) rfl (by omega) (rfl)) s449 ?_
                                                                  refine x_aload_n (q231c16 24 rfl) rfl ?_
                                                                  refine x_iload_n (q231c16 25 rfl) rfl ?_
                                                                  refine x_iconst (q231c16 26 rfl) ?_
                                                                  refine x_iadd (q231c16 27 rfl) s450 ?_
                                                                  refine x_iaload (q231c16 28 rfl) (al2000 _) s455 (ag_l (j1 := 3 + x3) rfl (by omega) (rfl)) s451 ?_
                                                                  obtain ⟨a457, h456, w458, H⟩ := H
                                                                  refine x_cvi (q231c16 29 rfl) rfl oc56 rfl (Nat.le_of_ble_eq_true rfl) ⟨a457, h456, w458, ?_⟩
                                                                  refine x_icmp_eq (q231c16 30 rfl) (fun c459 => ?_) (fun c459 => ?_)
                                                                  · replace H := H.1 c459
                                                                    obtain ⟨s460, H⟩ := H
                                                                    refine x_iinc (q231c17 54 rfl) rfl ⟨Nat.le_of_ble_eq_true rfl, trivial⟩ s460 ?_
                                                                    refine x_goto (q231c17 55 rfl) ?_
                                                                    exact H
                                                                  · replace H := H.2 c459
                                                                    refine x_iconst (q231c16 31 rfl) ?_
                                                                    exact x_iretz (q231c16 32 rfl) (.inl rfl) H
                                                                · replace H := H.2 c445
                                                                  refine sw_cons (fun c461 => ?_) (fun c461 => ?_)
                                                                  · replace H := H.1 c461
                                                                    obtain ⟨⟨s462, s463, s464, s465, s466, s467, s468, s469, s470, s471⟩, H⟩ := H
                                                                    refine x_aload_n (q231c16 33 rfl) rfl ?_
                                                                    refine x_aload_n (q231c16 34 rfl) rfl ?_
                                                                    refine x_iload_n (q231c16 35 rfl) rfl ?_
                                                                    refine x_iconst (q231c16 36 rfl) ?_
                                                                    refine x_iadd (q231c16 37 rfl) s462 ?_
                                                                    refine x_iaload (q231c16 38 rfl) (al2000 _) s1 (ag_l (j1 := 1 + x3) rfl (by omega) (rfl)) s463 ?_
                                                                    refine x_aload_n (q231c16 39 rfl) rfl ?_
                                                                    refine x_iload_n (q231c16 40 rfl) rfl ?_
                                                                    refine x_iconst (q231c16 41 rfl) ?_
                                                                    refine x_iadd (q231c16 42 rfl) s464 ?_
                                                                    refine x_iaload (q231c16 43 rfl) (al2000 _) s1 (ag_l (j1 := 2 + x3) rfl (by omega) (rfl)) s465 ?_
                                                                    refine x_aload_n (q231c16 44 rfl) rfl ?_
                                                                    refine x_iload_n (q231c16 45 rfl) rfl ?_
                                                                    refine x_iconst (q231c16 46 rfl) ?_
                                                                    refine x_iadd (q231c16 47 rfl) s466 ?_
                                                                    refine x_iaload (q231c16 48 rfl) (al2000 _) s1 (ag_l (j1 := 3 + x3) rfl (by omega) (rfl)) s467 ?_
                                                                    refine x_aload_n (q231c16 49 rfl) rfl ?_
                                                                    refine x_iload_n (q231c16 50 rfl) rfl ?_
                                                                    refine x_iconst (q231c16 51 rfl) ?_
                                                                    refine x_iadd (q231c16 52 rfl) s468 ?_
                                                                    refine x_iaload (q231c16 53 rfl) (al2000 _) s1 (ag_l (j1 := 4 + x3) rfl (by omega) (rfl)) s469 ?_
                                                                    refine x_aload_n (q231c16 54 rfl) rfl ?_
                                                                    refine x_iload_n (q231c16 55 rfl) rfl ?_
                                                                    refine x_iconst (q231c16 56 rfl) ?_
                                                                    refine x_iadd (q231c16 57 rfl) s470 ?_
                                                                    refine x_iaload (q231c16 58 rfl) (al2000 _) s1 (ag_l (j1 := 5 + x3) rfl (by omega) (rfl)) s471 ?_
                                                                    obtain ⟨a473, h472, w474, H⟩ := H
                                                                    refine x_cvi (q231c16 59 rfl) rfl oc0 rfl (Nat.le_of_ble_eq_true rfl) ⟨a473, h472, w474, ?_⟩
                                                                    obtain ⟨s475, H⟩ := H
                                                                    refine x_aload_n (q231c17 0 rfl) rfl ?_
                                                                    refine x_aload_n (q231c17 1 rfl) rfl ?_
                                                                    refine x_iload_n (q231c17 2 rfl) rfl ?_
                                                                    refine x_iconst (q231c17 3 rfl) ?_
                                                                    refine x_iadd (q231c17 4 rfl) s462 ?_
                                                                    refine x_iaload (q231c17 5 rfl) (al2000 _) s475 (ag_l (j1 := 1 + x3) rfl (by omega) (rfl)) s463 ?_
                                                                    refine x_aload_n (q231c17 6 rfl) rfl ?_
                                                                    refine x_iload_n (q231c17 7 rfl) rfl ?_
                                                                    refine x_iconst (q231c17 8 rfl) ?_
                                                                    refine x_iadd (q231c17 9 rfl) s464 ?_
                                                                    refine x_iaload (q231c17 10 rfl) (al2000 _) s475 (ag_l (j1 := 2 + x3) rfl (by omega) (rfl)) s465 ?_
                                                                    refine x_aload_n (q231c17 11 rfl) rfl ?_
                                                                    refine x_iload_n (q231c17 12 rfl) rfl ?_
                                                                    refine x_iconst (q231c17 13 rfl) ?_
                                                                    refine x_iadd (q231c17 14 rfl) s466 ?_
                                                                    refine x_iaload (q231c17 15 rfl) (al2000 _) s475 (ag_l (j1 := 3 + x3) rfl (by omega) (rfl)) s467 ?_
                                                                    refine x_aload_n (q231c17 16 rfl) rfl ?_
                                                                    refine x_iload_n (q231c17 17 rfl) rfl ?_
                                                                    refine x_iconst (q231c17 18 rfl) ?_
                                                                    refine x_iadd (q231c17 19 rfl) s468 ?_
                                                                    refine x_iaload (q231c17 20 rfl) (al2000 _) s475 (ag_l (j1 := 4 + x3) rfl (by omega) (rfl)) s469 ?_
                                                                    refine x_aload_n (q231c17 21 rfl) rfl ?_
                                                                    refine x_iload_n (q231c17 22 rfl) rfl ?_
                                                                    refine x_iconst (q231c17 23 rfl) ?_
                                                                    refine x_iadd (q231c17 24 rfl) s470 ?_
                                                                    refine x_iaload (q231c17 25 rfl) (al2000 _) s475 (ag_l (j1 := 5 + x3) rfl (by omega) (rfl)) s471 ?_
                                                                    obtain ⟨a477, h476, w478, H⟩ := H
                                                                    refine x_cvi (q231c17 26 rfl) rfl oc56 rfl (Nat.le_of_ble_eq_true rfl) ⟨a477, h476, w478, ?_⟩
                                                                    refine x_icmp_eq (q231c17 27 rfl) (fun c479 => ?_) (fun c479 => ?_)
                                                                    · replace H := H.1 c479
                                                                      obtain ⟨s480, H⟩ := H
                                                                      refine x_iinc (q231c17 54 rfl) rfl ⟨Nat.le_of_ble_eq_true rfl, trivial⟩ s480 ?_
                                                                      refine x_goto (q231c17 55 rfl) ?_
                                                                      exact H
                                                                    · replace H := H.2 c479
                                                                      refine x_iconst (q231c17 28 rfl) ?_
                                                                      exact x_iretz (q231c17 29 rfl) (.inl rfl) H
                                                                  · replace H := H.2 c461
                                                                    refine sw_cons (fun c481 => ?_) (fun c481 => ?_)
                                                                    · replace H := H.1 c481
                                                                      refine x_aload_n (q231c17 30 rfl) rfl ?_
                                                                      obtain ⟨a483, h482, w484, H⟩ := H
                                                                      refine x_cvi (q231c17 31 rfl) rfl oc0 rfl (Nat.le_of_ble_eq_true rfl) ⟨a483, h482, w484, ?_⟩
                                                                      refine x_aload_n (q231c17 32 rfl) rfl ?_
                                                                      obtain ⟨a486, h485, w487, H⟩ := H
                                                                      refine x_cvi (q231c17 33 rfl) rfl oc56 rfl (Nat.le_of_ble_eq_true rfl) ⟨a486, h485, w487, ?_⟩
                                                                      refine x_icmp_eq (q231c17 34 rfl) (fun c488 => ?_) (fun c488 => ?_)
                                                                      · replace H := H.1 c488
                                                                        obtain ⟨s489, H⟩ := H
                                                                        refine x_iinc (q231c17 54 rfl) rfl ⟨Nat.le_of_ble_eq_true rfl, trivial⟩ s489 ?_
                                                                        refine x_goto (q231c17 55 rfl) ?_
                                                                        exact H
                                                                      · replace H := H.2 c488
                                                                        refine x_iconst (q231c17 35 rfl) ?_
                                                                        exact x_iretz (q231c17 36 rfl) (.inl rfl) H
                                                                    · replace H := H.2 c481
                                                                      refine sw_cons (fun c490 => ?_) (fun c490 => ?_)
                                                                      · replace H := H.1 c490
                                                                        obtain ⟨⟨s491, s492⟩, H⟩ := H
                                                                        refine x_aload_n (q231c17 37 rfl) rfl ?_
                                                                        refine x_aload_n (q231c17 38 rfl) rfl ?_
                                                                        refine x_iload_n (q231c17 39 rfl) rfl ?_
                                                                        refine x_iconst (q231c17 40 rfl) ?_
                                                                        refine x_iadd (q231c17 41 rfl) s491 ?_
                                                                        refine x_iaload (q231c17 42 rfl) (al2000 _) s1 (ag_l (j1 := 1 + x3) rfl (by omega) (rfl)) s492 ?_
                                                                        obtain ⟨a494, h493, w495, H⟩ := H
                                                                        refine x_cvi (q231c17 43 rfl) rfl oc0 rfl (Nat.le_of_ble_eq_true rfl) ⟨a494, h493, w495, ?_⟩
                                                                        obtain ⟨s496, H⟩ := H
                                                                        refine x_aload_n (q231c17 44 rfl) rfl ?_
                                                                        refine x_aload_n (q231c17 45 rfl) rfl ?_
                                                                        refine x_iload_n (q231c17 46 rfl) rfl ?_
                                                                        refine x_iconst (q231c17 47 rfl) ?_
                                                                        refine x_iadd (q231c17 48 rfl) s491 ?_
                                                                        refine x_iaload (q231c17 49 rfl) (al2000 _) s496 (ag_l (j1 := 1 + x3) rfl (by omega) (rfl)) s492 ?_
                                                                        obtain ⟨a498, h497, w499, H⟩ := H
                                                                        refine x_cvi (q231c17 50 rfl) rfl oc56 rfl (Nat.le_of_ble_eq_true rfl) ⟨a498, h497, w499, ?_⟩
                                                                        refine x_icmp_eq (q231c17 51 rfl) (fun c500 => ?_) (fun c500 => ?_)
                                                                        · replace H := H.1 c500
                                                                          obtain ⟨s501, H⟩ := H
                                                                          refine x_iinc (q231c17 54 rfl) rfl ⟨Nat.le_of_ble_eq_true rfl, trivial⟩ s501 ?_
                                                                          refine x_goto (q231c17 55 rfl) ?_
                                                                          exact H
                                                                        · replace H := H.2 c500
                                                                          refine x_iconst (q231c17 52 rfl) ?_
                                                                          exact x_iretz (q231c17 53 rfl) (.inl rfl) H
                                                                      · replace H := H.2 c490
                                                                        refine sw_nil ?_
                                                                        obtain ⟨s502, H⟩ := H
                                                                        refine x_iinc (q231c17 54 rfl) rfl ⟨Nat.le_of_ble_eq_true rfl, trivial⟩ s502 ?_
                                                                        refine x_goto (q231c17 55 rfl) ?_
                                                                        exact H
