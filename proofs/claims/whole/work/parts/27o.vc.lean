/-! Conditions of methods (made by wip/whole/vcmake.py). -/
-- FloorTurnLaw.law, from its loop on
set_option maxHeartbeats 8000000 in
set_option maxRecDepth 100000 in
theorem v200_18 {L : Nat} {xs : Nat → Int32} {Q : Option Value → Hp → Prop} {h : Hp} {i : Int32} (hw : HW h) 
  (H : ((((Int32.ofNat L) - 9) < i) → (Q (some (.int 1)) h)) ∧ (¬ (((Int32.ofNat L) - 9) < i) → ((x_in i L = true) ∧ ((((xs i.toNatClampNeg) &&& 31) = 0) → ((x_in (i + 1) L = true) ∧ (x_in (i + 2) L = true) ∧ (x_in (i + 3) L = true) ∧ (x_in (i + 4) L = true) ∧ (x_in (i + 5) L = true) ∧ (x_in (i + 6) L = true) ∧ (x_in (i + 7) L = true) ∧ (x_in (i + 8) L = true) ∧ ∃ (r16 : Int32) (h14 : Hp), Sp L xs 84 [.ref 0, .int (xs (i + 1).toNatClampNeg), .int (xs (i + 2).toNatClampNeg), .int (xs (i + 3).toNatClampNeg), .int (xs (i + 4).toNatClampNeg), .int (xs (i + 5).toNatClampNeg), .int (xs (i + 6).toNatClampNeg), .int (xs (i + 7).toNatClampNeg), .int (xs (i + 8).toNatClampNeg)] h (some (.int r16)) h14 ∧ HW h14 ∧ (x_in (i + 1) L = true) ∧ (x_in (i + 2) L = true) ∧ (x_in (i + 3) L = true) ∧ (x_in (i + 4) L = true) ∧ (x_in (i + 5) L = true) ∧ (x_in (i + 6) L = true) ∧ (x_in (i + 7) L = true) ∧ (x_in (i + 8) L = true) ∧ ∃ (r28 : Int32) (h26 : Hp), Sp L xs 130 [.ref 397, .int (xs (i + 1).toNatClampNeg), .int (xs (i + 2).toNatClampNeg), .int (xs (i + 3).toNatClampNeg), .int (xs (i + 4).toNatClampNeg), .int (xs (i + 5).toNatClampNeg), .int (xs (i + 6).toNatClampNeg), .int (xs (i + 7).toNatClampNeg), .int (xs (i + 8).toNatClampNeg)] h14 (some (.int r28)) h26 ∧ ((r16 = r28) → (WP L xs 200 18 [some (.retAddr 0), some (.ref 0), some (.ref 397), some (.int (i + 9))] [] h26 Q)) ∧ (¬ (r16 = r28) → (Q (some (.int 0)) h26)))) ∧ (¬ (((xs i.toNatClampNeg) &&& 31) = 0) → (((((xs i.toNatClampNeg) &&& 31) = 1) → ((x_in (i + 1) L = true) ∧ (x_in (i + 2) L = true) ∧ (x_in (i + 3) L = true) ∧ (x_in (i + 4) L = true) ∧ (x_in (i + 5) L = true) ∧ ∃ (r41 : Int32) (h39 : Hp), Sp L xs 85 [.ref 0, .int (xs (i + 1).toNatClampNeg), .int (xs (i + 2).toNatClampNeg), .int (xs (i + 3).toNatClampNeg), .int (xs (i + 4).toNatClampNeg), .int (xs (i + 5).toNatClampNeg)] h (some (.int r41)) h39 ∧ (x_in (i + 1) L = true) ∧ (x_in (i + 2) L = true) ∧ (x_in (i + 3) L = true) ∧ (x_in (i + 4) L = true) ∧ (x_in (i + 5) L = true) ∧ ∃ (r50 : Int32) (h48 : Hp), Sp L xs 134 [.ref 397, .int (xs (i + 1).toNatClampNeg), .int (xs (i + 2).toNatClampNeg), .int (xs (i + 3).toNatClampNeg), .int (xs (i + 4).toNatClampNeg), .int (xs (i + 5).toNatClampNeg)] h39 (some (.int r50)) h48 ∧ ((r41 = r50) → (WP L xs 200 18 [some (.retAddr 0), some (.ref 0), some (.ref 397), some (.int (i + 9))] [] h48 Q)) ∧ (¬ (r41 = r50) → (Q (some (.int 0)) h48)))) ∧ (¬ (((xs i.toNatClampNeg) &&& 31) = 1) → (((((xs i.toNatClampNeg) &&& 31) = 2) → ((x_in (i + 1) L = true) ∧ ∃ (r59 : Int32) (h57 : Hp), Sp L xs 86 [.ref 0, .int (xs (i + 1).toNatClampNeg)] h (some (.int r59)) h57 ∧ (x_in (i + 1) L = true) ∧ ∃ (r64 : Int32) (h62 : Hp), Sp L xs 147 [.ref 397, .int (xs (i + 1).toNatClampNeg)] h57 (some (.int r64)) h62 ∧ ((r59 = r64) → (WP L xs 200 18 [some (.retAddr 0), some (.ref 0), some (.ref 397), some (.int (i + 9))] [] h62 Q)) ∧ (¬ (r59 = r64) → (Q (some (.int 0)) h62)))) ∧ (¬ (((xs i.toNatClampNeg) &&& 31) = 2) → (((((xs i.toNatClampNeg) &&& 31) = 3) → ((x_in (i + 1) L = true) ∧ ∃ (r73 : Int32) (h71 : Hp), Sp L xs 87 [.ref 0, .int (xs (i + 1).toNatClampNeg)] h (some (.int r73)) h71 ∧ (x_in (i + 1) L = true) ∧ ∃ (r78 : Int32) (h76 : Hp), Sp L xs 135 [.ref 397, .int (xs (i + 1).toNatClampNeg)] h71 (some (.int r78)) h76 ∧ ((r73 = r78) → (WP L xs 200 18 [some (.retAddr 0), some (.ref 0), some (.ref 397), some (.int (i + 9))] [] h76 Q)) ∧ (¬ (r73 = r78) → (Q (some (.int 0)) h76)))) ∧ (¬ (((xs i.toNatClampNeg) &&& 31) = 3) → (((((xs i.toNatClampNeg) &&& 31) = 4) → ((x_in (i + 1) L = true) ∧ (x_in (i + 2) L = true) ∧ (x_in (i + 3) L = true) ∧ ∃ (r89 : Int32) (h87 : Hp), Sp L xs 88 [.ref 0, .int (xs (i + 1).toNatClampNeg), .int (xs (i + 2).toNatClampNeg), .int (xs (i + 3).toNatClampNeg)] h (some (.int r89)) h87 ∧ (x_in (i + 1) L = true) ∧ (x_in (i + 2) L = true) ∧ (x_in (i + 3) L = true) ∧ ∃ (r96 : Int32) (h94 : Hp), Sp L xs 139 [.ref 397, .int (xs (i + 1).toNatClampNeg), .int (xs (i + 2).toNatClampNeg), .int (xs (i + 3).toNatClampNeg)] h87 (some (.int r96)) h94 ∧ ((r89 = r96) → (WP L xs 200 18 [some (.retAddr 0), some (.ref 0), some (.ref 397), some (.int (i + 9))] [] h94 Q)) ∧ (¬ (r89 = r96) → (Q (some (.int 0)) h94)))) ∧ (¬ (((xs i.toNatClampNeg) &&& 31) = 4) → (((((xs i.toNatClampNeg) &&& 31) = 5) → ((x_in (i + 1) L = true) ∧ (x_in (i + 2) L = true) ∧ (x_in (i + 3) L = true) ∧ (x_in (i + 4) L = true) ∧ ∃ (r108 : Int32) (h106 : Hp), Sp L xs 89 [.ref 0, .int (xs (i + 1).toNatClampNeg), .int (xs (i + 2).toNatClampNeg), .long ((((xs (i + 3).toNatClampNeg).toInt64) <<< ((32 : Int32).toInt64 &&& 63)) ||| (((xs (i + 4).toNatClampNeg).toInt64) &&& 4294967295))] h (some (.int r108)) h106 ∧ (x_in (i + 1) L = true) ∧ (x_in (i + 2) L = true) ∧ (x_in (i + 3) L = true) ∧ (x_in (i + 4) L = true) ∧ ∃ (r116 : Int32) (h114 : Hp), Sp L xs 141 [.ref 397, .int (xs (i + 1).toNatClampNeg), .int (xs (i + 2).toNatClampNeg), .long ((((xs (i + 3).toNatClampNeg).toInt64) <<< ((32 : Int32).toInt64 &&& 63)) ||| (((xs (i + 4).toNatClampNeg).toInt64) &&& 4294967295))] h106 (some (.int r116)) h114 ∧ ((r108 = r116) → (WP L xs 200 18 [some (.retAddr 0), some (.ref 0), some (.ref 397), some (.int (i + 9))] [] h114 Q)) ∧ (¬ (r108 = r116) → (Q (some (.int 0)) h114)))) ∧ (¬ (((xs i.toNatClampNeg) &&& 31) = 5) → (((((xs i.toNatClampNeg) &&& 31) = 6) → ((x_in (i + 1) L = true) ∧ (x_in (i + 2) L = true) ∧ (x_in (i + 3) L = true) ∧ (x_in (i + 4) L = true) ∧ (x_in (i + 5) L = true) ∧ ∃ (r129 : Int32) (h127 : Hp), Sp L xs 90 [.ref 0, .int (xs (i + 1).toNatClampNeg), .int (xs (i + 2).toNatClampNeg), .int (xs (i + 3).toNatClampNeg), .int (xs (i + 4).toNatClampNeg), .int (xs (i + 5).toNatClampNeg)] h (some (.int r129)) h127 ∧ (x_in (i + 1) L = true) ∧ (x_in (i + 2) L = true) ∧ (x_in (i + 3) L = true) ∧ (x_in (i + 4) L = true) ∧ (x_in (i + 5) L = true) ∧ ∃ (r138 : Int32) (h136 : Hp), Sp L xs 142 [.ref 397, .int (xs (i + 1).toNatClampNeg), .int (xs (i + 2).toNatClampNeg), .int (xs (i + 3).toNatClampNeg), .int (xs (i + 4).toNatClampNeg), .int (xs (i + 5).toNatClampNeg)] h127 (some (.int r138)) h136 ∧ ((r129 = r138) → (WP L xs 200 18 [some (.retAddr 0), some (.ref 0), some (.ref 397), some (.int (i + 9))] [] h136 Q)) ∧ (¬ (r129 = r138) → (Q (some (.int 0)) h136)))) ∧ (¬ (((xs i.toNatClampNeg) &&& 31) = 6) → (((((xs i.toNatClampNeg) &&& 31) = 7) → ((x_in (i + 1) L = true) ∧ (x_in (i + 2) L = true) ∧ ∃ (r147 : Int64), Sp L xs 91 [.ref 0, .int (xs (i + 1).toNatClampNeg), .int (xs (i + 2).toNatClampNeg)] h (some (.long r147)) h ∧ (x_in (i + 1) L = true) ∧ (x_in (i + 2) L = true) ∧ ∃ (r151 : Int64), Sp L xs 143 [.ref 397, .int (xs (i + 1).toNatClampNeg), .int (xs (i + 2).toNatClampNeg)] h (some (.long r151)) h ∧ (((lg_cmp r147 r151) = 0) → (WP L xs 200 18 [some (.retAddr 0), some (.ref 0), some (.ref 397), some (.int (i + 9))] [] h Q)) ∧ (¬ ((lg_cmp r147 r151) = 0) → (Q (some (.int 0)) h)))) ∧ (¬ (((xs i.toNatClampNeg) &&& 31) = 7) → (((((xs i.toNatClampNeg) &&& 31) = 8) → ((x_in (i + 1) L = true) ∧ ∃ (r159 : Int32) (h157 : Hp), Sp L xs 92 [.ref 0, .int (xs (i + 1).toNatClampNeg)] h (some (.int r159)) h157 ∧ (x_in (i + 1) L = true) ∧ ∃ (r164 : Int32) (h162 : Hp), Sp L xs 144 [.ref 397, .int (xs (i + 1).toNatClampNeg)] h157 (some (.int r164)) h162 ∧ ((r159 = r164) → (WP L xs 200 18 [some (.retAddr 0), some (.ref 0), some (.ref 397), some (.int (i + 9))] [] h162 Q)) ∧ (¬ (r159 = r164) → (Q (some (.int 0)) h162)))) ∧ (¬ (((xs i.toNatClampNeg) &&& 31) = 8) → (((((xs i.toNatClampNeg) &&& 31) = 9) → ((x_in (i + 1) L = true) ∧ ∃ (r172 : Int32), Sp L xs 93 [.ref 0, .int (xs (i + 1).toNatClampNeg)] h (some (.int r172)) h ∧ (x_in (i + 1) L = true) ∧ ∃ (r175 : Int32), Sp L xs 145 [.ref 397, .int (xs (i + 1).toNatClampNeg)] h (some (.int r175)) h ∧ ((r172 = r175) → (WP L xs 200 18 [some (.retAddr 0), some (.ref 0), some (.ref 397), some (.int (i + 9))] [] h Q)) ∧ (¬ (r172 = r175) → (Q (some (.int 0)) h)))) ∧ (¬ (((xs i.toNatClampNeg) &&& 31) = 9) → (((((xs i.toNatClampNeg) &&& 31) = 10) → ((x_in (i + 1) L = true) ∧ (x_in (i + 2) L = true) ∧ (x_in (i + 3) L = true) ∧ (x_in (i + 4) L = true) ∧ ∃ (r186 : Int32) (h184 : Hp), Sp L xs 94 [.ref 0, .int (xs (i + 1).toNatClampNeg), .int (xs (i + 2).toNatClampNeg), .int (xs (i + 3).toNatClampNeg), .int (xs (i + 4).toNatClampNeg)] h (some (.int r186)) h184 ∧ (x_in (i + 1) L = true) ∧ (x_in (i + 2) L = true) ∧ (x_in (i + 3) L = true) ∧ (x_in (i + 4) L = true) ∧ ∃ (r194 : Int32) (h192 : Hp), Sp L xs 148 [.ref 397, .int (xs (i + 1).toNatClampNeg), .int (xs (i + 2).toNatClampNeg), .int (xs (i + 3).toNatClampNeg), .int (xs (i + 4).toNatClampNeg)] h184 (some (.int r194)) h192 ∧ ((r186 = r194) → (WP L xs 200 18 [some (.retAddr 0), some (.ref 0), some (.ref 397), some (.int (i + 9))] [] h192 Q)) ∧ (¬ (r186 = r194) → (Q (some (.int 0)) h192)))) ∧ (¬ (((xs i.toNatClampNeg) &&& 31) = 10) → (((((xs i.toNatClampNeg) &&& 31) = 11) → ((x_in (i + 1) L = true) ∧ (x_in (i + 2) L = true) ∧ (x_in (i + 3) L = true) ∧ ∃ (r205 : Int32) (h203 : Hp), Sp L xs 95 [.ref 0, .int (xs (i + 1).toNatClampNeg), .int (xs (i + 2).toNatClampNeg), .int (xs (i + 3).toNatClampNeg)] h (some (.int r205)) h203 ∧ (x_in (i + 1) L = true) ∧ (x_in (i + 2) L = true) ∧ (x_in (i + 3) L = true) ∧ ∃ (r212 : Int32) (h210 : Hp), Sp L xs 153 [.ref 397, .int (xs (i + 1).toNatClampNeg), .int (xs (i + 2).toNatClampNeg), .int (xs (i + 3).toNatClampNeg)] h203 (some (.int r212)) h210 ∧ ((r205 = r212) → (WP L xs 200 18 [some (.retAddr 0), some (.ref 0), some (.ref 397), some (.int (i + 9))] [] h210 Q)) ∧ (¬ (r205 = r212) → (Q (some (.int 0)) h210)))) ∧ (¬ (((xs i.toNatClampNeg) &&& 31) = 11) → (((((xs i.toNatClampNeg) &&& 31) = 12) → ((x_in (i + 1) L = true) ∧ ∃ (r221 : Int32) (h219 : Hp), Sp L xs 96 [.ref 0, .int (xs (i + 1).toNatClampNeg)] h (some (.int r221)) h219 ∧ (x_in (i + 1) L = true) ∧ ∃ (r226 : Int32) (h224 : Hp), Sp L xs 154 [.ref 397, .int (xs (i + 1).toNatClampNeg)] h219 (some (.int r226)) h224 ∧ ((r221 = r226) → (WP L xs 200 18 [some (.retAddr 0), some (.ref 0), some (.ref 397), some (.int (i + 9))] [] h224 Q)) ∧ (¬ (r221 = r226) → (Q (some (.int 0)) h224)))) ∧ (¬ (((xs i.toNatClampNeg) &&& 31) = 12) → (((((xs i.toNatClampNeg) &&& 31) = 13) → ((x_in (i + 1) L = true) ∧ ∃ (r235 : Int32) (h233 : Hp), Sp L xs 97 [.ref 0, .int (xs (i + 1).toNatClampNeg)] h (some (.int r235)) h233 ∧ (x_in (i + 1) L = true) ∧ ∃ (r240 : Int32) (h238 : Hp), Sp L xs 166 [.ref 397, .int (xs (i + 1).toNatClampNeg)] h233 (some (.int r240)) h238 ∧ ((r235 = r240) → (WP L xs 200 18 [some (.retAddr 0), some (.ref 0), some (.ref 397), some (.int (i + 9))] [] h238 Q)) ∧ (¬ (r235 = r240) → (Q (some (.int 0)) h238)))) ∧ (¬ (((xs i.toNatClampNeg) &&& 31) = 13) → (((((xs i.toNatClampNeg) &&& 31) = 14) → ((x_in (i + 1) L = true) ∧ ∃ (r249 : Int32) (h247 : Hp), Sp L xs 98 [.ref 0, .int (xs (i + 1).toNatClampNeg)] h (some (.int r249)) h247 ∧ (x_in (i + 1) L = true) ∧ ∃ (r254 : Int32) (h252 : Hp), Sp L xs 173 [.ref 397, .int (xs (i + 1).toNatClampNeg)] h247 (some (.int r254)) h252 ∧ ((r249 = r254) → (WP L xs 200 18 [some (.retAddr 0), some (.ref 0), some (.ref 397), some (.int (i + 9))] [] h252 Q)) ∧ (¬ (r249 = r254) → (Q (some (.int 0)) h252)))) ∧ (¬ (((xs i.toNatClampNeg) &&& 31) = 14) → (((((xs i.toNatClampNeg) &&& 31) = 15) → ((x_in (i + 1) L = true) ∧ ∃ (r262 : Int32), Sp L xs 99 [.ref 0, .int (xs (i + 1).toNatClampNeg)] h (some (.int r262)) h ∧ (x_in (i + 1) L = true) ∧ ∃ (r265 : Int32), Sp L xs 174 [.ref 397, .int (xs (i + 1).toNatClampNeg)] h (some (.int r265)) h ∧ ((r262 = r265) → (WP L xs 200 18 [some (.retAddr 0), some (.ref 0), some (.ref 397), some (.int (i + 9))] [] h Q)) ∧ (¬ (r262 = r265) → (Q (some (.int 0)) h)))) ∧ (¬ (((xs i.toNatClampNeg) &&& 31) = 15) → (((((xs i.toNatClampNeg) &&& 31) = 16) → ((x_in (i + 1) L = true) ∧ (x_in (i + 2) L = true) ∧ ∃ (r273 : Int32), Sp L xs 100 [.ref 0, .int (xs (i + 1).toNatClampNeg), .int (xs (i + 2).toNatClampNeg)] h (some (.int r273)) h ∧ (x_in (i + 1) L = true) ∧ (x_in (i + 2) L = true) ∧ ∃ (r277 : Int32), Sp L xs 175 [.ref 397, .int (xs (i + 1).toNatClampNeg), .int (xs (i + 2).toNatClampNeg)] h (some (.int r277)) h ∧ ((r273 = r277) → (WP L xs 200 18 [some (.retAddr 0), some (.ref 0), some (.ref 397), some (.int (i + 9))] [] h Q)) ∧ (¬ (r273 = r277) → (Q (some (.int 0)) h)))) ∧ (¬ (((xs i.toNatClampNeg) &&& 31) = 16) → (((((xs i.toNatClampNeg) &&& 31) = 17) → ((x_in (i + 1) L = true) ∧ (x_in (i + 2) L = true) ∧ ∃ (r285 : Int32), Sp L xs 101 [.ref 0, .int (xs (i + 1).toNatClampNeg), .int (xs (i + 2).toNatClampNeg)] h (some (.int r285)) h ∧ (x_in (i + 1) L = true) ∧ (x_in (i + 2) L = true) ∧ ∃ (r289 : Int32), Sp L xs 176 [.ref 397, .int (xs (i + 1).toNatClampNeg), .int (xs (i + 2).toNatClampNeg)] h (some (.int r289)) h ∧ ((r285 = r289) → (WP L xs 200 18 [some (.retAddr 0), some (.ref 0), some (.ref 397), some (.int (i + 9))] [] h Q)) ∧ (¬ (r285 = r289) → (Q (some (.int 0)) h)))) ∧ (¬ (((xs i.toNatClampNeg) &&& 31) = 17) → (((((xs i.toNatClampNeg) &&& 31) = 18) → ((x_in (i + 1) L = true) ∧ ∃ (r296 : Int32), Sp L xs 102 [.ref 0, .int (xs (i + 1).toNatClampNeg)] h (some (.int r296)) h ∧ (x_in (i + 1) L = true) ∧ ∃ (r299 : Int32), Sp L xs 177 [.ref 397, .int (xs (i + 1).toNatClampNeg)] h (some (.int r299)) h ∧ ((r296 = r299) → (WP L xs 200 18 [some (.retAddr 0), some (.ref 0), some (.ref 397), some (.int (i + 9))] [] h Q)) ∧ (¬ (r296 = r299) → (Q (some (.int 0)) h)))) ∧ (¬ (((xs i.toNatClampNeg) &&& 31) = 18) → (((((xs i.toNatClampNeg) &&& 31) = 19) → ((x_in (i + 1) L = true) ∧ (x_in (i + 2) L = true) ∧ (x_in (i + 3) L = true) ∧ ∃ (r309 : Int32) (h307 : Hp), Sp L xs 103 [.ref 0, .int (xs (i + 1).toNatClampNeg), .int (xs (i + 2).toNatClampNeg), .int (xs (i + 3).toNatClampNeg)] h (some (.int r309)) h307 ∧ (x_in (i + 1) L = true) ∧ (x_in (i + 2) L = true) ∧ (x_in (i + 3) L = true) ∧ ∃ (r316 : Int32) (h314 : Hp), Sp L xs 182 [.ref 397, .int (xs (i + 1).toNatClampNeg), .int (xs (i + 2).toNatClampNeg), .int (xs (i + 3).toNatClampNeg)] h307 (some (.int r316)) h314 ∧ ((r309 = r316) → (WP L xs 200 18 [some (.retAddr 0), some (.ref 0), some (.ref 397), some (.int (i + 9))] [] h314 Q)) ∧ (¬ (r309 = r316) → (Q (some (.int 0)) h314)))) ∧ (¬ (((xs i.toNatClampNeg) &&& 31) = 19) → (((((xs i.toNatClampNeg) &&& 31) = 20) → ((x_in (i + 1) L = true) ∧ ∃ (r324 : Int32), Sp L xs 104 [.ref 0, .int (xs (i + 1).toNatClampNeg)] h (some (.int r324)) h ∧ (x_in (i + 1) L = true) ∧ ∃ (r327 : Int32), Sp L xs 183 [.ref 397, .int (xs (i + 1).toNatClampNeg)] h (some (.int r327)) h ∧ ((r324 = r327) → (WP L xs 200 18 [some (.retAddr 0), some (.ref 0), some (.ref 397), some (.int (i + 9))] [] h Q)) ∧ (¬ (r324 = r327) → (Q (some (.int 0)) h)))) ∧ (¬ (((xs i.toNatClampNeg) &&& 31) = 20) → (((((xs i.toNatClampNeg) &&& 31) = 21) → ((x_in (i + 1) L = true) ∧ (x_in (i + 2) L = true) ∧ ∃ (r339 : Int64), Sp L xs 105 [.ref 0, .int (xs (i + 1).toNatClampNeg), .int (b2i (if (xs (i + 2).toNatClampNeg) = 0 then (false) else (true)))] h (some (.long r339)) h ∧ (x_in (i + 1) L = true) ∧ (x_in (i + 2) L = true) ∧ ∃ (r347 : Int64), Sp L xs 184 [.ref 397, .int (xs (i + 1).toNatClampNeg), .int (b2i (if (xs (i + 2).toNatClampNeg) = 0 then (false) else (true)))] h (some (.long r347)) h ∧ (((lg_cmp r339 r347) = 0) → (WP L xs 200 18 [some (.retAddr 0), some (.ref 0), some (.ref 397), some (.int (i + 9))] [] h Q)) ∧ (¬ ((lg_cmp r339 r347) = 0) → (Q (some (.int 0)) h)))) ∧ (¬ (((xs i.toNatClampNeg) &&& 31) = 21) → (((((xs i.toNatClampNeg) &&& 31) = 22) → ((x_in (i + 1) L = true) ∧ (x_in (i + 2) L = true) ∧ ∃ (r356 : Int32) (h354 : Hp), Sp L xs 106 [.ref 0, .int (xs (i + 1).toNatClampNeg), .int (xs (i + 2).toNatClampNeg)] h (some (.int r356)) h354 ∧ (x_in (i + 1) L = true) ∧ (x_in (i + 2) L = true) ∧ ∃ (r362 : Int32) (h360 : Hp), Sp L xs 190 [.ref 397, .int (xs (i + 1).toNatClampNeg), .int (xs (i + 2).toNatClampNeg)] h354 (some (.int r362)) h360 ∧ ((r356 = r362) → (WP L xs 200 18 [some (.retAddr 0), some (.ref 0), some (.ref 397), some (.int (i + 9))] [] h360 Q)) ∧ (¬ (r356 = r362) → (Q (some (.int 0)) h360)))) ∧ (¬ (((xs i.toNatClampNeg) &&& 31) = 22) → (((((xs i.toNatClampNeg) &&& 31) = 23) → ((x_in (i + 1) L = true) ∧ (x_in (i + 2) L = true) ∧ ∃ (r372 : Int32) (h370 : Hp), Sp L xs 107 [.ref 0, .int (xs (i + 1).toNatClampNeg), .int (xs (i + 2).toNatClampNeg)] h (some (.int r372)) h370 ∧ (x_in (i + 1) L = true) ∧ (x_in (i + 2) L = true) ∧ ∃ (r378 : Int32) (h376 : Hp), Sp L xs 192 [.ref 397, .int (xs (i + 1).toNatClampNeg), .int (xs (i + 2).toNatClampNeg)] h370 (some (.int r378)) h376 ∧ ((r372 = r378) → (WP L xs 200 18 [some (.retAddr 0), some (.ref 0), some (.ref 397), some (.int (i + 9))] [] h376 Q)) ∧ (¬ (r372 = r378) → (Q (some (.int 0)) h376)))) ∧ (¬ (((xs i.toNatClampNeg) &&& 31) = 23) → (((((xs i.toNatClampNeg) &&& 31) = 24) → ((x_in (i + 1) L = true) ∧ ∃ (r386 : Int32), Sp L xs 108 [.ref 0, .int (xs (i + 1).toNatClampNeg)] h (some (.int r386)) h ∧ (x_in (i + 1) L = true) ∧ ∃ (r389 : Int32), Sp L xs 194 [.ref 397, .int (xs (i + 1).toNatClampNeg)] h (some (.int r389)) h ∧ ((r386 = r389) → (WP L xs 200 18 [some (.retAddr 0), some (.ref 0), some (.ref 397), some (.int (i + 9))] [] h Q)) ∧ (¬ (r386 = r389) → (Q (some (.int 0)) h)))) ∧ (¬ (((xs i.toNatClampNeg) &&& 31) = 24) → (WP L xs 200 18 [some (.retAddr 0), some (.ref 0), some (.ref 397), some (.int (i + 9))] [] h Q))))))))))))))))))))))))))))))))))))))))))))))))))))) : WP L xs 200 18 [some (.retAddr 0), some (.ref 0), some (.ref 397), some (.int i)] [] h Q := by
  refine e_ld (pc' := 19) i200_18 rfl rfl ?_
  refine e_ld (pc' := 20) i200_19 rfl rfl ?_
  refine e_lens (pc' := 21) i200_20 rfl ?_
  refine e_cn (pc' := 23) i200_21 rfl ?_
  refine e_ib (z := (Int32.ofNat L) - 9) (pc' := 24) i200_23 rfl rfl ?_
  refine e_ic (pc' := 27) i200_24 rfl (fun c1 => ?_) (fun c1 => ?_)
  · have d2 : ((Int32.ofNat L) - 9) < i := (of_decide_eq_true c1)
    replace H := H.1 d2
    refine e_cn (pc' := 1104) i200_1103 rfl ?_
    refine e_rt i200_1104 rfl ?_
    exact H
  · have d3 : ¬ (((Int32.ofNat L) - 9) < i) := (of_decide_eq_false c1)
    replace H := H.2 d3
    refine e_ld (pc' := 28) i200_27 rfl rfl ?_
    refine e_ld (pc' := 29) i200_28 rfl rfl ?_
    obtain ⟨g4, H⟩ := H
    refine e_als (y := xs i.toNatClampNeg) (pc' := 30) i200_29 rfl g4 rfl ?_
    refine e_cn (pc' := 32) i200_30 rfl ?_
    refine e_ib (z := (xs i.toNatClampNeg) &&& 31) (pc' := 33) i200_32 rfl rfl ?_
    by_cases c5 : ((xs i.toNatClampNeg) &&& 31) = 0
    · replace H := H.1 c5
      refine e_tab (pc' := 148) i200_33 (by rw [c5]; rfl) ?_
      refine e_ld (pc' := 149) i200_148 rfl rfl ?_
      refine e_ld (pc' := 150) i200_149 rfl rfl ?_
      refine e_ld (pc' := 151) i200_150 rfl rfl ?_
      refine e_cn (pc' := 152) i200_151 rfl ?_
      refine e_ib (z := i + 1) (pc' := 153) i200_152 rfl rfl ?_
      obtain ⟨g6, H⟩ := H
      refine e_als (y := xs (i + 1).toNatClampNeg) (pc' := 154) i200_153 rfl g6 rfl ?_
      refine e_ld (pc' := 155) i200_154 rfl rfl ?_
      refine e_ld (pc' := 156) i200_155 rfl rfl ?_
      refine e_cn (pc' := 157) i200_156 rfl ?_
      refine e_ib (z := i + 2) (pc' := 158) i200_157 rfl rfl ?_
      obtain ⟨g7, H⟩ := H
      refine e_als (y := xs (i + 2).toNatClampNeg) (pc' := 159) i200_158 rfl g7 rfl ?_
      refine e_ld (pc' := 160) i200_159 rfl rfl ?_
      refine e_ld (pc' := 161) i200_160 rfl rfl ?_
      refine e_cn (pc' := 162) i200_161 rfl ?_
      refine e_ib (z := i + 3) (pc' := 163) i200_162 rfl rfl ?_
      obtain ⟨g8, H⟩ := H
      refine e_als (y := xs (i + 3).toNatClampNeg) (pc' := 164) i200_163 rfl g8 rfl ?_
      refine e_ld (pc' := 165) i200_164 rfl rfl ?_
      refine e_ld (pc' := 166) i200_165 rfl rfl ?_
      refine e_cn (pc' := 167) i200_166 rfl ?_
      refine e_ib (z := i + 4) (pc' := 168) i200_167 rfl rfl ?_
      obtain ⟨g9, H⟩ := H
      refine e_als (y := xs (i + 4).toNatClampNeg) (pc' := 169) i200_168 rfl g9 rfl ?_
      refine e_ld (pc' := 170) i200_169 rfl rfl ?_
      refine e_ld (pc' := 171) i200_170 rfl rfl ?_
      refine e_cn (pc' := 172) i200_171 rfl ?_
      refine e_ib (z := i + 5) (pc' := 173) i200_172 rfl rfl ?_
      obtain ⟨g10, H⟩ := H
      refine e_als (y := xs (i + 5).toNatClampNeg) (pc' := 174) i200_173 rfl g10 rfl ?_
      refine e_ld (pc' := 175) i200_174 rfl rfl ?_
      refine e_ld (pc' := 176) i200_175 rfl rfl ?_
      refine e_cn (pc' := 178) i200_176 rfl ?_
      refine e_ib (z := i + 6) (pc' := 179) i200_178 rfl rfl ?_
      obtain ⟨g11, H⟩ := H
      refine e_als (y := xs (i + 6).toNatClampNeg) (pc' := 180) i200_179 rfl g11 rfl ?_
      refine e_ld (pc' := 181) i200_180 rfl rfl ?_
      refine e_ld (pc' := 182) i200_181 rfl rfl ?_
      refine e_cn (pc' := 184) i200_182 rfl ?_
      refine e_ib (z := i + 7) (pc' := 185) i200_184 rfl rfl ?_
      obtain ⟨g12, H⟩ := H
      refine e_als (y := xs (i + 7).toNatClampNeg) (pc' := 186) i200_185 rfl g12 rfl ?_
      refine e_ld (pc' := 187) i200_186 rfl rfl ?_
      refine e_ld (pc' := 188) i200_187 rfl rfl ?_
      refine e_cn (pc' := 190) i200_188 rfl ?_
      refine e_ib (z := i + 8) (pc' := 191) i200_190 rfl rfl ?_
      obtain ⟨g13, H⟩ := H
      refine e_als (y := xs (i + 8).toNatClampNeg) (pc' := 192) i200_191 rfl g13 rfl ?_
      obtain ⟨r16, h14, s15, H⟩ := H
      obtain ⟨w18, H⟩ := H
      refine e_cI (w := .int r16) (As := [.ref 0, .int (xs (i + 1).toNatClampNeg), .int (xs (i + 2).toNatClampNeg), .int (xs (i + 3).toNatClampNeg), .int (xs (i + 4).toNatClampNeg), .int (xs (i + 5).toNatClampNeg), .int (xs (i + 6).toNatClampNeg), .int (xs (i + 7).toNatClampNeg), .int (xs (i + 8).toNatClampNeg)]) (rest := []) (pc' := 195) i200_192 rfl rfl rfl rfl (by show (Nat.beq (x_kd 84) 0 && x_is 0 _ (MC 84) 0) = true; rw [show x_kd 84 = 0 by decide +kernel, show MC 84 = 10 by decide +kernel, (x_isC (by decide) hw.1 sh0)]; rfl) s15 ?_
      refine e_ld (pc' := 196) i200_195 rfl rfl ?_
      refine e_ld (pc' := 197) i200_196 rfl rfl ?_
      refine e_ld (pc' := 198) i200_197 rfl rfl ?_
      refine e_cn (pc' := 199) i200_198 rfl ?_
      refine e_ib (z := i + 1) (pc' := 200) i200_199 rfl rfl ?_
      obtain ⟨g18, H⟩ := H
      refine e_als (y := xs (i + 1).toNatClampNeg) (pc' := 201) i200_200 rfl g18 rfl ?_
      refine e_ld (pc' := 202) i200_201 rfl rfl ?_
      refine e_ld (pc' := 203) i200_202 rfl rfl ?_
      refine e_cn (pc' := 204) i200_203 rfl ?_
      refine e_ib (z := i + 2) (pc' := 205) i200_204 rfl rfl ?_
      obtain ⟨g19, H⟩ := H
      refine e_als (y := xs (i + 2).toNatClampNeg) (pc' := 206) i200_205 rfl g19 rfl ?_
      refine e_ld (pc' := 207) i200_206 rfl rfl ?_
      refine e_ld (pc' := 208) i200_207 rfl rfl ?_
      refine e_cn (pc' := 209) i200_208 rfl ?_
      refine e_ib (z := i + 3) (pc' := 210) i200_209 rfl rfl ?_
      obtain ⟨g20, H⟩ := H
      refine e_als (y := xs (i + 3).toNatClampNeg) (pc' := 211) i200_210 rfl g20 rfl ?_
      refine e_ld (pc' := 212) i200_211 rfl rfl ?_
      refine e_ld (pc' := 213) i200_212 rfl rfl ?_
      refine e_cn (pc' := 214) i200_213 rfl ?_
      refine e_ib (z := i + 4) (pc' := 215) i200_214 rfl rfl ?_
      obtain ⟨g21, H⟩ := H
      refine e_als (y := xs (i + 4).toNatClampNeg) (pc' := 216) i200_215 rfl g21 rfl ?_
      refine e_ld (pc' := 217) i200_216 rfl rfl ?_
      refine e_ld (pc' := 218) i200_217 rfl rfl ?_
      refine e_cn (pc' := 219) i200_218 rfl ?_
      refine e_ib (z := i + 5) (pc' := 220) i200_219 rfl rfl ?_
      obtain ⟨g22, H⟩ := H
      refine e_als (y := xs (i + 5).toNatClampNeg) (pc' := 221) i200_220 rfl g22 rfl ?_
      refine e_ld (pc' := 222) i200_221 rfl rfl ?_
      refine e_ld (pc' := 223) i200_222 rfl rfl ?_
      refine e_cn (pc' := 225) i200_223 rfl ?_
      refine e_ib (z := i + 6) (pc' := 226) i200_225 rfl rfl ?_
      obtain ⟨g23, H⟩ := H
      refine e_als (y := xs (i + 6).toNatClampNeg) (pc' := 227) i200_226 rfl g23 rfl ?_
      refine e_ld (pc' := 228) i200_227 rfl rfl ?_
      refine e_ld (pc' := 229) i200_228 rfl rfl ?_
      refine e_cn (pc' := 231) i200_229 rfl ?_
      refine e_ib (z := i + 7) (pc' := 232) i200_231 rfl rfl ?_
      obtain ⟨g24, H⟩ := H
      refine e_als (y := xs (i + 7).toNatClampNeg) (pc' := 233) i200_232 rfl g24 rfl ?_
      refine e_ld (pc' := 234) i200_233 rfl rfl ?_
      refine e_ld (pc' := 235) i200_234 rfl rfl ?_
      refine e_cn (pc' := 237) i200_235 rfl ?_
      refine e_ib (z := i + 8) (pc' := 238) i200_237 rfl rfl ?_
      obtain ⟨g25, H⟩ := H
      refine e_als (y := xs (i + 8).toNatClampNeg) (pc' := 239) i200_238 rfl g25 rfl ?_
      obtain ⟨r28, h26, s27, H⟩ := H
      have w31q := HW_sp (show x_okm 130 = true by rfl) s27 w18
      have w31 : HW h26 := w31q.1
      refine e_cI (w := .int r28) (As := [.ref 397, .int (xs (i + 1).toNatClampNeg), .int (xs (i + 2).toNatClampNeg), .int (xs (i + 3).toNatClampNeg), .int (xs (i + 4).toNatClampNeg), .int (xs (i + 5).toNatClampNeg), .int (xs (i + 6).toNatClampNeg), .int (xs (i + 7).toNatClampNeg), .int (xs (i + 8).toNatClampNeg)]) (rest := [.int r16]) (pc' := 242) i200_239 rfl rfl rfl rfl (by show (Nat.beq (x_kd 130) 0 && x_is 397 _ (MC 130) 0) = true; rw [show x_kd 130 = 0 by decide +kernel, show MC 130 = 11 by decide +kernel, (x_isC (by decide) w18.1 sh397)]; rfl) s27 ?_
      refine e_ic (pc' := 245) i200_242 rfl (fun c30 => ?_) (fun c30 => ?_)
      · have d31 : r16 = r28 := (of_decide_eq_true c30)
        replace H := H.1 d31
        refine e_inc (z := i + 9) (ls' := [some (.retAddr 0), some (.ref 0), some (.ref 397), some (.int (i + 9))]) (pc' := 1100) i200_1097 rfl rfl rfl rfl ?_
        refine e_go i200_1100 ?_
        exact H
      · have d32 : ¬ (r16 = r28) := (of_decide_eq_false c30)
        replace H := H.2 d32
        refine e_cn (pc' := 246) i200_245 rfl ?_
        refine e_rt i200_246 rfl ?_
        exact H
    · replace H := H.2 c5
      by_cases c33 : ((xs i.toNatClampNeg) &&& 31) = 1
      · replace H := H.1 c33
        refine e_tab (pc' := 247) i200_33 (by rw [c33]; rfl) ?_
        refine e_ld (pc' := 248) i200_247 rfl rfl ?_
        refine e_ld (pc' := 249) i200_248 rfl rfl ?_
        refine e_ld (pc' := 250) i200_249 rfl rfl ?_
        refine e_cn (pc' := 251) i200_250 rfl ?_
        refine e_ib (z := i + 1) (pc' := 252) i200_251 rfl rfl ?_
        obtain ⟨g34, H⟩ := H
        refine e_als (y := xs (i + 1).toNatClampNeg) (pc' := 253) i200_252 rfl g34 rfl ?_
        refine e_ld (pc' := 254) i200_253 rfl rfl ?_
        refine e_ld (pc' := 255) i200_254 rfl rfl ?_
        refine e_cn (pc' := 256) i200_255 rfl ?_
        refine e_ib (z := i + 2) (pc' := 257) i200_256 rfl rfl ?_
        obtain ⟨g35, H⟩ := H
        refine e_als (y := xs (i + 2).toNatClampNeg) (pc' := 258) i200_257 rfl g35 rfl ?_
        refine e_ld (pc' := 259) i200_258 rfl rfl ?_
        refine e_ld (pc' := 260) i200_259 rfl rfl ?_
        refine e_cn (pc' := 261) i200_260 rfl ?_
        refine e_ib (z := i + 3) (pc' := 262) i200_261 rfl rfl ?_
        obtain ⟨g36, H⟩ := H
        refine e_als (y := xs (i + 3).toNatClampNeg) (pc' := 263) i200_262 rfl g36 rfl ?_
        refine e_ld (pc' := 264) i200_263 rfl rfl ?_
        refine e_ld (pc' := 265) i200_264 rfl rfl ?_
        refine e_cn (pc' := 266) i200_265 rfl ?_
        refine e_ib (z := i + 4) (pc' := 267) i200_266 rfl rfl ?_
        obtain ⟨g37, H⟩ := H
        refine e_als (y := xs (i + 4).toNatClampNeg) (pc' := 268) i200_267 rfl g37 rfl ?_
        refine e_ld (pc' := 269) i200_268 rfl rfl ?_
        refine e_ld (pc' := 270) i200_269 rfl rfl ?_
        refine e_cn (pc' := 271) i200_270 rfl ?_
        refine e_ib (z := i + 5) (pc' := 272) i200_271 rfl rfl ?_
        obtain ⟨g38, H⟩ := H
        refine e_als (y := xs (i + 5).toNatClampNeg) (pc' := 273) i200_272 rfl g38 rfl ?_
        obtain ⟨r41, h39, s40, H⟩ := H
        have w43q := HW_sp (show x_okm 85 = true by rfl) s40 hw
        have w43 : HW h39 := w43q.1
        refine e_cI (w := .int r41) (As := [.ref 0, .int (xs (i + 1).toNatClampNeg), .int (xs (i + 2).toNatClampNeg), .int (xs (i + 3).toNatClampNeg), .int (xs (i + 4).toNatClampNeg), .int (xs (i + 5).toNatClampNeg)]) (rest := []) (pc' := 276) i200_273 rfl rfl rfl rfl (by show (Nat.beq (x_kd 85) 0 && x_is 0 _ (MC 85) 0) = true; rw [show x_kd 85 = 0 by decide +kernel, show MC 85 = 10 by decide +kernel, (x_isC (by decide) hw.1 sh0)]; rfl) s40 ?_
        refine e_ld (pc' := 277) i200_276 rfl rfl ?_
        refine e_ld (pc' := 278) i200_277 rfl rfl ?_
        refine e_ld (pc' := 279) i200_278 rfl rfl ?_
        refine e_cn (pc' := 280) i200_279 rfl ?_
        refine e_ib (z := i + 1) (pc' := 281) i200_280 rfl rfl ?_
        obtain ⟨g43, H⟩ := H
        refine e_als (y := xs (i + 1).toNatClampNeg) (pc' := 282) i200_281 rfl g43 rfl ?_
        refine e_ld (pc' := 283) i200_282 rfl rfl ?_
        refine e_ld (pc' := 284) i200_283 rfl rfl ?_
        refine e_cn (pc' := 285) i200_284 rfl ?_
        refine e_ib (z := i + 2) (pc' := 286) i200_285 rfl rfl ?_
        obtain ⟨g44, H⟩ := H
        refine e_als (y := xs (i + 2).toNatClampNeg) (pc' := 287) i200_286 rfl g44 rfl ?_
        refine e_ld (pc' := 288) i200_287 rfl rfl ?_
        refine e_ld (pc' := 289) i200_288 rfl rfl ?_
        refine e_cn (pc' := 290) i200_289 rfl ?_
        refine e_ib (z := i + 3) (pc' := 291) i200_290 rfl rfl ?_
        obtain ⟨g45, H⟩ := H
        refine e_als (y := xs (i + 3).toNatClampNeg) (pc' := 292) i200_291 rfl g45 rfl ?_
        refine e_ld (pc' := 293) i200_292 rfl rfl ?_
        refine e_ld (pc' := 294) i200_293 rfl rfl ?_
        refine e_cn (pc' := 295) i200_294 rfl ?_
        refine e_ib (z := i + 4) (pc' := 296) i200_295 rfl rfl ?_
        obtain ⟨g46, H⟩ := H
        refine e_als (y := xs (i + 4).toNatClampNeg) (pc' := 297) i200_296 rfl g46 rfl ?_
        refine e_ld (pc' := 298) i200_297 rfl rfl ?_
        refine e_ld (pc' := 299) i200_298 rfl rfl ?_
        refine e_cn (pc' := 300) i200_299 rfl ?_
        refine e_ib (z := i + 5) (pc' := 301) i200_300 rfl rfl ?_
        obtain ⟨g47, H⟩ := H
        refine e_als (y := xs (i + 5).toNatClampNeg) (pc' := 302) i200_301 rfl g47 rfl ?_
        obtain ⟨r50, h48, s49, H⟩ := H
        have w53q := HW_sp (show x_okm 134 = true by rfl) s49 w43
        have w53 : HW h48 := w53q.1
        refine e_cI (w := .int r50) (As := [.ref 397, .int (xs (i + 1).toNatClampNeg), .int (xs (i + 2).toNatClampNeg), .int (xs (i + 3).toNatClampNeg), .int (xs (i + 4).toNatClampNeg), .int (xs (i + 5).toNatClampNeg)]) (rest := [.int r41]) (pc' := 305) i200_302 rfl rfl rfl rfl (by show (Nat.beq (x_kd 134) 0 && x_is 397 _ (MC 134) 0) = true; rw [show x_kd 134 = 0 by decide +kernel, show MC 134 = 11 by decide +kernel, (x_isC (by decide) w43.1 sh397)]; rfl) s49 ?_
        refine e_ic (pc' := 308) i200_305 rfl (fun c52 => ?_) (fun c52 => ?_)
        · have d53 : r41 = r50 := (of_decide_eq_true c52)
          replace H := H.1 d53
          refine e_inc (z := i + 9) (ls' := [some (.retAddr 0), some (.ref 0), some (.ref 397), some (.int (i + 9))]) (pc' := 1100) i200_1097 rfl rfl rfl rfl ?_
          refine e_go i200_1100 ?_
          exact H
        · have d54 : ¬ (r41 = r50) := (of_decide_eq_false c52)
          replace H := H.2 d54
          refine e_cn (pc' := 309) i200_308 rfl ?_
          refine e_rt i200_309 rfl ?_
          exact H
      · replace H := H.2 c33
        by_cases c55 : ((xs i.toNatClampNeg) &&& 31) = 2
        · replace H := H.1 c55
          refine e_tab (pc' := 310) i200_33 (by rw [c55]; rfl) ?_
          refine e_ld (pc' := 311) i200_310 rfl rfl ?_
          refine e_ld (pc' := 312) i200_311 rfl rfl ?_
          refine e_ld (pc' := 313) i200_312 rfl rfl ?_
          refine e_cn (pc' := 314) i200_313 rfl ?_
          refine e_ib (z := i + 1) (pc' := 315) i200_314 rfl rfl ?_
          obtain ⟨g56, H⟩ := H
          refine e_als (y := xs (i + 1).toNatClampNeg) (pc' := 316) i200_315 rfl g56 rfl ?_
          obtain ⟨r59, h57, s58, H⟩ := H
          have w61q := HW_sp (show x_okm 86 = true by rfl) s58 hw
          have w61 : HW h57 := w61q.1
          refine e_cI (w := .int r59) (As := [.ref 0, .int (xs (i + 1).toNatClampNeg)]) (rest := []) (pc' := 319) i200_316 rfl rfl rfl rfl (by show (Nat.beq (x_kd 86) 0 && x_is 0 _ (MC 86) 0) = true; rw [show x_kd 86 = 0 by decide +kernel, show MC 86 = 10 by decide +kernel, (x_isC (by decide) hw.1 sh0)]; rfl) s58 ?_
          refine e_ld (pc' := 320) i200_319 rfl rfl ?_
          refine e_ld (pc' := 321) i200_320 rfl rfl ?_
          refine e_ld (pc' := 322) i200_321 rfl rfl ?_
          refine e_cn (pc' := 323) i200_322 rfl ?_
          refine e_ib (z := i + 1) (pc' := 324) i200_323 rfl rfl ?_
          obtain ⟨g61, H⟩ := H
          refine e_als (y := xs (i + 1).toNatClampNeg) (pc' := 325) i200_324 rfl g61 rfl ?_
          obtain ⟨r64, h62, s63, H⟩ := H
          have w67q := HW_sp (show x_okm 147 = true by rfl) s63 w61
          have w67 : HW h62 := w67q.1
          refine e_cI (w := .int r64) (As := [.ref 397, .int (xs (i + 1).toNatClampNeg)]) (rest := [.int r59]) (pc' := 328) i200_325 rfl rfl rfl rfl (by show (Nat.beq (x_kd 147) 0 && x_is 397 _ (MC 147) 0) = true; rw [show x_kd 147 = 0 by decide +kernel, show MC 147 = 11 by decide +kernel, (x_isC (by decide) w61.1 sh397)]; rfl) s63 ?_
          refine e_ic (pc' := 331) i200_328 rfl (fun c66 => ?_) (fun c66 => ?_)
          · have d67 : r59 = r64 := (of_decide_eq_true c66)
            replace H := H.1 d67
            refine e_inc (z := i + 9) (ls' := [some (.retAddr 0), some (.ref 0), some (.ref 397), some (.int (i + 9))]) (pc' := 1100) i200_1097 rfl rfl rfl rfl ?_
            refine e_go i200_1100 ?_
            exact H
          · have d68 : ¬ (r59 = r64) := (of_decide_eq_false c66)
            replace H := H.2 d68
            refine e_cn (pc' := 332) i200_331 rfl ?_
            refine e_rt i200_332 rfl ?_
            exact H
        · replace H := H.2 c55
          by_cases c69 : ((xs i.toNatClampNeg) &&& 31) = 3
          · replace H := H.1 c69
            refine e_tab (pc' := 333) i200_33 (by rw [c69]; rfl) ?_
            refine e_ld (pc' := 334) i200_333 rfl rfl ?_
            refine e_ld (pc' := 335) i200_334 rfl rfl ?_
            refine e_ld (pc' := 336) i200_335 rfl rfl ?_
            refine e_cn (pc' := 337) i200_336 rfl ?_
            refine e_ib (z := i + 1) (pc' := 338) i200_337 rfl rfl ?_
            obtain ⟨g70, H⟩ := H
            refine e_als (y := xs (i + 1).toNatClampNeg) (pc' := 339) i200_338 rfl g70 rfl ?_
            obtain ⟨r73, h71, s72, H⟩ := H
            have w75q := HW_sp (show x_okm 87 = true by rfl) s72 hw
            have w75 : HW h71 := w75q.1
            refine e_cI (w := .int r73) (As := [.ref 0, .int (xs (i + 1).toNatClampNeg)]) (rest := []) (pc' := 342) i200_339 rfl rfl rfl rfl (by show (Nat.beq (x_kd 87) 0 && x_is 0 _ (MC 87) 0) = true; rw [show x_kd 87 = 0 by decide +kernel, show MC 87 = 10 by decide +kernel, (x_isC (by decide) hw.1 sh0)]; rfl) s72 ?_
            refine e_ld (pc' := 343) i200_342 rfl rfl ?_
            refine e_ld (pc' := 344) i200_343 rfl rfl ?_
            refine e_ld (pc' := 345) i200_344 rfl rfl ?_
            refine e_cn (pc' := 346) i200_345 rfl ?_
            refine e_ib (z := i + 1) (pc' := 347) i200_346 rfl rfl ?_
            obtain ⟨g75, H⟩ := H
            refine e_als (y := xs (i + 1).toNatClampNeg) (pc' := 348) i200_347 rfl g75 rfl ?_
            obtain ⟨r78, h76, s77, H⟩ := H
            have w81q := HW_sp (show x_okm 135 = true by rfl) s77 w75
            have w81 : HW h76 := w81q.1
            refine e_cI (w := .int r78) (As := [.ref 397, .int (xs (i + 1).toNatClampNeg)]) (rest := [.int r73]) (pc' := 351) i200_348 rfl rfl rfl rfl (by show (Nat.beq (x_kd 135) 0 && x_is 397 _ (MC 135) 0) = true; rw [show x_kd 135 = 0 by decide +kernel, show MC 135 = 11 by decide +kernel, (x_isC (by decide) w75.1 sh397)]; rfl) s77 ?_
            refine e_ic (pc' := 354) i200_351 rfl (fun c80 => ?_) (fun c80 => ?_)
            · have d81 : r73 = r78 := (of_decide_eq_true c80)
              replace H := H.1 d81
              refine e_inc (z := i + 9) (ls' := [some (.retAddr 0), some (.ref 0), some (.ref 397), some (.int (i + 9))]) (pc' := 1100) i200_1097 rfl rfl rfl rfl ?_
              refine e_go i200_1100 ?_
              exact H
            · have d82 : ¬ (r73 = r78) := (of_decide_eq_false c80)
              replace H := H.2 d82
              refine e_cn (pc' := 355) i200_354 rfl ?_
              refine e_rt i200_355 rfl ?_
              exact H
          · replace H := H.2 c69
            by_cases c83 : ((xs i.toNatClampNeg) &&& 31) = 4
            · replace H := H.1 c83
              refine e_tab (pc' := 356) i200_33 (by rw [c83]; rfl) ?_
              refine e_ld (pc' := 357) i200_356 rfl rfl ?_
              refine e_ld (pc' := 358) i200_357 rfl rfl ?_
              refine e_ld (pc' := 359) i200_358 rfl rfl ?_
              refine e_cn (pc' := 360) i200_359 rfl ?_
              refine e_ib (z := i + 1) (pc' := 361) i200_360 rfl rfl ?_
              obtain ⟨g84, H⟩ := H
              refine e_als (y := xs (i + 1).toNatClampNeg) (pc' := 362) i200_361 rfl g84 rfl ?_
              refine e_ld (pc' := 363) i200_362 rfl rfl ?_
              refine e_ld (pc' := 364) i200_363 rfl rfl ?_
              refine e_cn (pc' := 365) i200_364 rfl ?_
              refine e_ib (z := i + 2) (pc' := 366) i200_365 rfl rfl ?_
              obtain ⟨g85, H⟩ := H
              refine e_als (y := xs (i + 2).toNatClampNeg) (pc' := 367) i200_366 rfl g85 rfl ?_
              refine e_ld (pc' := 368) i200_367 rfl rfl ?_
              refine e_ld (pc' := 369) i200_368 rfl rfl ?_
              refine e_cn (pc' := 370) i200_369 rfl ?_
              refine e_ib (z := i + 3) (pc' := 371) i200_370 rfl rfl ?_
              obtain ⟨g86, H⟩ := H
              refine e_als (y := xs (i + 3).toNatClampNeg) (pc' := 372) i200_371 rfl g86 rfl ?_
              obtain ⟨r89, h87, s88, H⟩ := H
              have w91q := HW_sp (show x_okm 88 = true by rfl) s88 hw
              have w91 : HW h87 := w91q.1
              refine e_cI (w := .int r89) (As := [.ref 0, .int (xs (i + 1).toNatClampNeg), .int (xs (i + 2).toNatClampNeg), .int (xs (i + 3).toNatClampNeg)]) (rest := []) (pc' := 375) i200_372 rfl rfl rfl rfl (by show (Nat.beq (x_kd 88) 0 && x_is 0 _ (MC 88) 0) = true; rw [show x_kd 88 = 0 by decide +kernel, show MC 88 = 10 by decide +kernel, (x_isC (by decide) hw.1 sh0)]; rfl) s88 ?_
              refine e_ld (pc' := 376) i200_375 rfl rfl ?_
              refine e_ld (pc' := 377) i200_376 rfl rfl ?_
              refine e_ld (pc' := 378) i200_377 rfl rfl ?_
              refine e_cn (pc' := 379) i200_378 rfl ?_
              refine e_ib (z := i + 1) (pc' := 380) i200_379 rfl rfl ?_
              obtain ⟨g91, H⟩ := H
              refine e_als (y := xs (i + 1).toNatClampNeg) (pc' := 381) i200_380 rfl g91 rfl ?_
              refine e_ld (pc' := 382) i200_381 rfl rfl ?_
              refine e_ld (pc' := 383) i200_382 rfl rfl ?_
              refine e_cn (pc' := 384) i200_383 rfl ?_
              refine e_ib (z := i + 2) (pc' := 385) i200_384 rfl rfl ?_
              obtain ⟨g92, H⟩ := H
              refine e_als (y := xs (i + 2).toNatClampNeg) (pc' := 386) i200_385 rfl g92 rfl ?_
              refine e_ld (pc' := 387) i200_386 rfl rfl ?_
              refine e_ld (pc' := 388) i200_387 rfl rfl ?_
              refine e_cn (pc' := 389) i200_388 rfl ?_
              refine e_ib (z := i + 3) (pc' := 390) i200_389 rfl rfl ?_
              obtain ⟨g93, H⟩ := H
              refine e_als (y := xs (i + 3).toNatClampNeg) (pc' := 391) i200_390 rfl g93 rfl ?_
              obtain ⟨r96, h94, s95, H⟩ := H
              have w99q := HW_sp (show x_okm 139 = true by rfl) s95 w91
              have w99 : HW h94 := w99q.1
              refine e_cI (w := .int r96) (As := [.ref 397, .int (xs (i + 1).toNatClampNeg), .int (xs (i + 2).toNatClampNeg), .int (xs (i + 3).toNatClampNeg)]) (rest := [.int r89]) (pc' := 394) i200_391 rfl rfl rfl rfl (by show (Nat.beq (x_kd 139) 0 && x_is 397 _ (MC 139) 0) = true; rw [show x_kd 139 = 0 by decide +kernel, show MC 139 = 11 by decide +kernel, (x_isC (by decide) w91.1 sh397)]; rfl) s95 ?_
              refine e_ic (pc' := 397) i200_394 rfl (fun c98 => ?_) (fun c98 => ?_)
              · have d99 : r89 = r96 := (of_decide_eq_true c98)
                replace H := H.1 d99
                refine e_inc (z := i + 9) (ls' := [some (.retAddr 0), some (.ref 0), some (.ref 397), some (.int (i + 9))]) (pc' := 1100) i200_1097 rfl rfl rfl rfl ?_
                refine e_go i200_1100 ?_
                exact H
              · have d100 : ¬ (r89 = r96) := (of_decide_eq_false c98)
                replace H := H.2 d100
                refine e_cn (pc' := 398) i200_397 rfl ?_
                refine e_rt i200_398 rfl ?_
                exact H
            · replace H := H.2 c83
              by_cases c101 : ((xs i.toNatClampNeg) &&& 31) = 5
              · replace H := H.1 c101
                refine e_tab (pc' := 399) i200_33 (by rw [c101]; rfl) ?_
                refine e_ld (pc' := 400) i200_399 rfl rfl ?_
                refine e_ld (pc' := 401) i200_400 rfl rfl ?_
                refine e_ld (pc' := 402) i200_401 rfl rfl ?_
                refine e_cn (pc' := 403) i200_402 rfl ?_
                refine e_ib (z := i + 1) (pc' := 404) i200_403 rfl rfl ?_
                obtain ⟨g102, H⟩ := H
                refine e_als (y := xs (i + 1).toNatClampNeg) (pc' := 405) i200_404 rfl g102 rfl ?_
                refine e_ld (pc' := 406) i200_405 rfl rfl ?_
                refine e_ld (pc' := 407) i200_406 rfl rfl ?_
                refine e_cn (pc' := 408) i200_407 rfl ?_
                refine e_ib (z := i + 2) (pc' := 409) i200_408 rfl rfl ?_
                obtain ⟨g103, H⟩ := H
                refine e_als (y := xs (i + 2).toNatClampNeg) (pc' := 410) i200_409 rfl g103 rfl ?_
                refine e_ld (pc' := 411) i200_410 rfl rfl ?_
                refine e_ld (pc' := 412) i200_411 rfl rfl ?_
                refine e_cn (pc' := 413) i200_412 rfl ?_
                refine e_ib (z := i + 3) (pc' := 414) i200_413 rfl rfl ?_
                obtain ⟨g104, H⟩ := H
                refine e_als (y := xs (i + 3).toNatClampNeg) (pc' := 415) i200_414 rfl g104 rfl ?_
                refine e_un (pc' := 416) i200_415 rfl rfl ?_
                refine e_cn (pc' := 418) i200_416 rfl ?_
                refine e_lshl (pc' := 419) i200_418 rfl ?_
                refine e_ld (pc' := 420) i200_419 rfl rfl ?_
                refine e_ld (pc' := 421) i200_420 rfl rfl ?_
                refine e_cn (pc' := 422) i200_421 rfl ?_
                refine e_ib (z := i + 4) (pc' := 423) i200_422 rfl rfl ?_
                obtain ⟨g105, H⟩ := H
                refine e_als (y := xs (i + 4).toNatClampNeg) (pc' := 424) i200_423 rfl g105 rfl ?_
                refine e_un (pc' := 425) i200_424 rfl rfl ?_
                refine e_cn (pc' := 428) i200_425 rfl ?_
                refine e_lb (z := ((xs (i + 4).toNatClampNeg).toInt64) &&& 4294967295) (pc' := 429) i200_428 rfl rfl ?_
                refine e_lb (z := (((xs (i + 3).toNatClampNeg).toInt64) <<< ((32 : Int32).toInt64 &&& 63)) ||| (((xs (i + 4).toNatClampNeg).toInt64) &&& 4294967295)) (pc' := 430) i200_429 rfl rfl ?_
                obtain ⟨r108, h106, s107, H⟩ := H
                have w110q := HW_sp (show x_okm 89 = true by rfl) s107 hw
                have w110 : HW h106 := w110q.1
                refine e_cI (w := .int r108) (As := [.ref 0, .int (xs (i + 1).toNatClampNeg), .int (xs (i + 2).toNatClampNeg), .long ((((xs (i + 3).toNatClampNeg).toInt64) <<< ((32 : Int32).toInt64 &&& 63)) ||| (((xs (i + 4).toNatClampNeg).toInt64) &&& 4294967295))]) (rest := []) (pc' := 433) i200_430 rfl rfl rfl rfl (by show (Nat.beq (x_kd 89) 0 && x_is 0 _ (MC 89) 0) = true; rw [show x_kd 89 = 0 by decide +kernel, show MC 89 = 10 by decide +kernel, (x_isC (by decide) hw.1 sh0)]; rfl) s107 ?_
                refine e_ld (pc' := 434) i200_433 rfl rfl ?_
                refine e_ld (pc' := 435) i200_434 rfl rfl ?_
                refine e_ld (pc' := 436) i200_435 rfl rfl ?_
                refine e_cn (pc' := 437) i200_436 rfl ?_
                refine e_ib (z := i + 1) (pc' := 438) i200_437 rfl rfl ?_
                obtain ⟨g110, H⟩ := H
                refine e_als (y := xs (i + 1).toNatClampNeg) (pc' := 439) i200_438 rfl g110 rfl ?_
                refine e_ld (pc' := 440) i200_439 rfl rfl ?_
                refine e_ld (pc' := 441) i200_440 rfl rfl ?_
                refine e_cn (pc' := 442) i200_441 rfl ?_
                refine e_ib (z := i + 2) (pc' := 443) i200_442 rfl rfl ?_
                obtain ⟨g111, H⟩ := H
                refine e_als (y := xs (i + 2).toNatClampNeg) (pc' := 444) i200_443 rfl g111 rfl ?_
                refine e_ld (pc' := 445) i200_444 rfl rfl ?_
                refine e_ld (pc' := 446) i200_445 rfl rfl ?_
                refine e_cn (pc' := 447) i200_446 rfl ?_
                refine e_ib (z := i + 3) (pc' := 448) i200_447 rfl rfl ?_
                obtain ⟨g112, H⟩ := H
                refine e_als (y := xs (i + 3).toNatClampNeg) (pc' := 449) i200_448 rfl g112 rfl ?_
                refine e_un (pc' := 450) i200_449 rfl rfl ?_
                refine e_cn (pc' := 452) i200_450 rfl ?_
                refine e_lshl (pc' := 453) i200_452 rfl ?_
                refine e_ld (pc' := 454) i200_453 rfl rfl ?_
                refine e_ld (pc' := 455) i200_454 rfl rfl ?_
                refine e_cn (pc' := 456) i200_455 rfl ?_
                refine e_ib (z := i + 4) (pc' := 457) i200_456 rfl rfl ?_
                obtain ⟨g113, H⟩ := H
                refine e_als (y := xs (i + 4).toNatClampNeg) (pc' := 458) i200_457 rfl g113 rfl ?_
                refine e_un (pc' := 459) i200_458 rfl rfl ?_
                refine e_cn (pc' := 462) i200_459 rfl ?_
                refine e_lb (z := ((xs (i + 4).toNatClampNeg).toInt64) &&& 4294967295) (pc' := 463) i200_462 rfl rfl ?_
                refine e_lb (z := (((xs (i + 3).toNatClampNeg).toInt64) <<< ((32 : Int32).toInt64 &&& 63)) ||| (((xs (i + 4).toNatClampNeg).toInt64) &&& 4294967295)) (pc' := 464) i200_463 rfl rfl ?_
                obtain ⟨r116, h114, s115, H⟩ := H
                have w119q := HW_sp (show x_okm 141 = true by rfl) s115 w110
                have w119 : HW h114 := w119q.1
                refine e_cI (w := .int r116) (As := [.ref 397, .int (xs (i + 1).toNatClampNeg), .int (xs (i + 2).toNatClampNeg), .long ((((xs (i + 3).toNatClampNeg).toInt64) <<< ((32 : Int32).toInt64 &&& 63)) ||| (((xs (i + 4).toNatClampNeg).toInt64) &&& 4294967295))]) (rest := [.int r108]) (pc' := 467) i200_464 rfl rfl rfl rfl (by show (Nat.beq (x_kd 141) 0 && x_is 397 _ (MC 141) 0) = true; rw [show x_kd 141 = 0 by decide +kernel, show MC 141 = 11 by decide +kernel, (x_isC (by decide) w110.1 sh397)]; rfl) s115 ?_
                refine e_ic (pc' := 470) i200_467 rfl (fun c118 => ?_) (fun c118 => ?_)
                · have d119 : r108 = r116 := (of_decide_eq_true c118)
                  replace H := H.1 d119
                  refine e_inc (z := i + 9) (ls' := [some (.retAddr 0), some (.ref 0), some (.ref 397), some (.int (i + 9))]) (pc' := 1100) i200_1097 rfl rfl rfl rfl ?_
                  refine e_go i200_1100 ?_
                  exact H
                · have d120 : ¬ (r108 = r116) := (of_decide_eq_false c118)
                  replace H := H.2 d120
                  refine e_cn (pc' := 471) i200_470 rfl ?_
                  refine e_rt i200_471 rfl ?_
                  exact H
              · replace H := H.2 c101
                by_cases c121 : ((xs i.toNatClampNeg) &&& 31) = 6
                · replace H := H.1 c121
                  refine e_tab (pc' := 472) i200_33 (by rw [c121]; rfl) ?_
                  refine e_ld (pc' := 473) i200_472 rfl rfl ?_
                  refine e_ld (pc' := 474) i200_473 rfl rfl ?_
                  refine e_ld (pc' := 475) i200_474 rfl rfl ?_
                  refine e_cn (pc' := 476) i200_475 rfl ?_
                  refine e_ib (z := i + 1) (pc' := 477) i200_476 rfl rfl ?_
                  obtain ⟨g122, H⟩ := H
                  refine e_als (y := xs (i + 1).toNatClampNeg) (pc' := 478) i200_477 rfl g122 rfl ?_
                  refine e_ld (pc' := 479) i200_478 rfl rfl ?_
                  refine e_ld (pc' := 480) i200_479 rfl rfl ?_
                  refine e_cn (pc' := 481) i200_480 rfl ?_
                  refine e_ib (z := i + 2) (pc' := 482) i200_481 rfl rfl ?_
                  obtain ⟨g123, H⟩ := H
                  refine e_als (y := xs (i + 2).toNatClampNeg) (pc' := 483) i200_482 rfl g123 rfl ?_
                  refine e_ld (pc' := 484) i200_483 rfl rfl ?_
                  refine e_ld (pc' := 485) i200_484 rfl rfl ?_
                  refine e_cn (pc' := 486) i200_485 rfl ?_
                  refine e_ib (z := i + 3) (pc' := 487) i200_486 rfl rfl ?_
                  obtain ⟨g124, H⟩ := H
                  refine e_als (y := xs (i + 3).toNatClampNeg) (pc' := 488) i200_487 rfl g124 rfl ?_
                  refine e_ld (pc' := 489) i200_488 rfl rfl ?_
                  refine e_ld (pc' := 490) i200_489 rfl rfl ?_
                  refine e_cn (pc' := 491) i200_490 rfl ?_
                  refine e_ib (z := i + 4) (pc' := 492) i200_491 rfl rfl ?_
                  obtain ⟨g125, H⟩ := H
                  refine e_als (y := xs (i + 4).toNatClampNeg) (pc' := 493) i200_492 rfl g125 rfl ?_
                  refine e_ld (pc' := 494) i200_493 rfl rfl ?_
                  refine e_ld (pc' := 495) i200_494 rfl rfl ?_
                  refine e_cn (pc' := 496) i200_495 rfl ?_
                  refine e_ib (z := i + 5) (pc' := 497) i200_496 rfl rfl ?_
                  obtain ⟨g126, H⟩ := H
                  refine e_als (y := xs (i + 5).toNatClampNeg) (pc' := 498) i200_497 rfl g126 rfl ?_
                  obtain ⟨r129, h127, s128, H⟩ := H
                  have w131q := HW_sp (show x_okm 90 = true by rfl) s128 hw
                  have w131 : HW h127 := w131q.1
                  refine e_cI (w := .int r129) (As := [.ref 0, .int (xs (i + 1).toNatClampNeg), .int (xs (i + 2).toNatClampNeg), .int (xs (i + 3).toNatClampNeg), .int (xs (i + 4).toNatClampNeg), .int (xs (i + 5).toNatClampNeg)]) (rest := []) (pc' := 501) i200_498 rfl rfl rfl rfl (by show (Nat.beq (x_kd 90) 0 && x_is 0 _ (MC 90) 0) = true; rw [show x_kd 90 = 0 by decide +kernel, show MC 90 = 10 by decide +kernel, (x_isC (by decide) hw.1 sh0)]; rfl) s128 ?_
                  refine e_ld (pc' := 502) i200_501 rfl rfl ?_
                  refine e_ld (pc' := 503) i200_502 rfl rfl ?_
                  refine e_ld (pc' := 504) i200_503 rfl rfl ?_
                  refine e_cn (pc' := 505) i200_504 rfl ?_
                  refine e_ib (z := i + 1) (pc' := 506) i200_505 rfl rfl ?_
                  obtain ⟨g131, H⟩ := H
                  refine e_als (y := xs (i + 1).toNatClampNeg) (pc' := 507) i200_506 rfl g131 rfl ?_
                  refine e_ld (pc' := 508) i200_507 rfl rfl ?_
                  refine e_ld (pc' := 509) i200_508 rfl rfl ?_
                  refine e_cn (pc' := 510) i200_509 rfl ?_
                  refine e_ib (z := i + 2) (pc' := 511) i200_510 rfl rfl ?_
                  obtain ⟨g132, H⟩ := H
                  refine e_als (y := xs (i + 2).toNatClampNeg) (pc' := 512) i200_511 rfl g132 rfl ?_
                  refine e_ld (pc' := 513) i200_512 rfl rfl ?_
                  refine e_ld (pc' := 514) i200_513 rfl rfl ?_
                  refine e_cn (pc' := 515) i200_514 rfl ?_
                  refine e_ib (z := i + 3) (pc' := 516) i200_515 rfl rfl ?_
                  obtain ⟨g133, H⟩ := H
                  refine e_als (y := xs (i + 3).toNatClampNeg) (pc' := 517) i200_516 rfl g133 rfl ?_
                  refine e_ld (pc' := 518) i200_517 rfl rfl ?_
                  refine e_ld (pc' := 519) i200_518 rfl rfl ?_
                  refine e_cn (pc' := 520) i200_519 rfl ?_
                  refine e_ib (z := i + 4) (pc' := 521) i200_520 rfl rfl ?_
                  obtain ⟨g134, H⟩ := H
                  refine e_als (y := xs (i + 4).toNatClampNeg) (pc' := 522) i200_521 rfl g134 rfl ?_
                  refine e_ld (pc' := 523) i200_522 rfl rfl ?_
                  refine e_ld (pc' := 524) i200_523 rfl rfl ?_
                  refine e_cn (pc' := 525) i200_524 rfl ?_
                  refine e_ib (z := i + 5) (pc' := 526) i200_525 rfl rfl ?_
                  obtain ⟨g135, H⟩ := H
                  refine e_als (y := xs (i + 5).toNatClampNeg) (pc' := 527) i200_526 rfl g135 rfl ?_
                  obtain ⟨r138, h136, s137, H⟩ := H
                  have w141q := HW_sp (show x_okm 142 = true by rfl) s137 w131
                  have w141 : HW h136 := w141q.1
                  refine e_cI (w := .int r138) (As := [.ref 397, .int (xs (i + 1).toNatClampNeg), .int (xs (i + 2).toNatClampNeg), .int (xs (i + 3).toNatClampNeg), .int (xs (i + 4).toNatClampNeg), .int (xs (i + 5).toNatClampNeg)]) (rest := [.int r129]) (pc' := 530) i200_527 rfl rfl rfl rfl (by show (Nat.beq (x_kd 142) 0 && x_is 397 _ (MC 142) 0) = true; rw [show x_kd 142 = 0 by decide +kernel, show MC 142 = 11 by decide +kernel, (x_isC (by decide) w131.1 sh397)]; rfl) s137 ?_
                  refine e_ic (pc' := 533) i200_530 rfl (fun c140 => ?_) (fun c140 => ?_)
                  · have d141 : r129 = r138 := (of_decide_eq_true c140)
                    replace H := H.1 d141
                    refine e_inc (z := i + 9) (ls' := [some (.retAddr 0), some (.ref 0), some (.ref 397), some (.int (i + 9))]) (pc' := 1100) i200_1097 rfl rfl rfl rfl ?_
                    refine e_go i200_1100 ?_
                    exact H
                  · have d142 : ¬ (r129 = r138) := (of_decide_eq_false c140)
                    replace H := H.2 d142
                    refine e_cn (pc' := 534) i200_533 rfl ?_
                    refine e_rt i200_534 rfl ?_
                    exact H
                · replace H := H.2 c121
                  by_cases c143 : ((xs i.toNatClampNeg) &&& 31) = 7
                  · replace H := H.1 c143
                    refine e_tab (pc' := 535) i200_33 (by rw [c143]; rfl) ?_
                    refine e_ld (pc' := 536) i200_535 rfl rfl ?_
                    refine e_ld (pc' := 537) i200_536 rfl rfl ?_
                    refine e_ld (pc' := 538) i200_537 rfl rfl ?_
                    refine e_cn (pc' := 539) i200_538 rfl ?_
                    refine e_ib (z := i + 1) (pc' := 540) i200_539 rfl rfl ?_
                    obtain ⟨g144, H⟩ := H
                    refine e_als (y := xs (i + 1).toNatClampNeg) (pc' := 541) i200_540 rfl g144 rfl ?_
                    refine e_ld (pc' := 542) i200_541 rfl rfl ?_
                    refine e_ld (pc' := 543) i200_542 rfl rfl ?_
                    refine e_cn (pc' := 544) i200_543 rfl ?_
                    refine e_ib (z := i + 2) (pc' := 545) i200_544 rfl rfl ?_
                    obtain ⟨g145, H⟩ := H
                    refine e_als (y := xs (i + 2).toNatClampNeg) (pc' := 546) i200_545 rfl g145 rfl ?_
                    obtain ⟨r147, s146, H⟩ := H
                    refine e_cI (w := .long r147) (As := [.ref 0, .int (xs (i + 1).toNatClampNeg), .int (xs (i + 2).toNatClampNeg)]) (rest := []) (pc' := 549) i200_546 rfl rfl rfl rfl (by show (Nat.beq (x_kd 91) 0 && x_is 0 _ (MC 91) 0) = true; rw [show x_kd 91 = 0 by decide +kernel, show MC 91 = 10 by decide +kernel, (x_isC (by decide) hw.1 sh0)]; rfl) s146 ?_
                    refine e_ld (pc' := 550) i200_549 rfl rfl ?_
                    refine e_ld (pc' := 551) i200_550 rfl rfl ?_
                    refine e_ld (pc' := 552) i200_551 rfl rfl ?_
                    refine e_cn (pc' := 553) i200_552 rfl ?_
                    refine e_ib (z := i + 1) (pc' := 554) i200_553 rfl rfl ?_
                    obtain ⟨g148, H⟩ := H
                    refine e_als (y := xs (i + 1).toNatClampNeg) (pc' := 555) i200_554 rfl g148 rfl ?_
                    refine e_ld (pc' := 556) i200_555 rfl rfl ?_
                    refine e_ld (pc' := 557) i200_556 rfl rfl ?_
                    refine e_cn (pc' := 558) i200_557 rfl ?_
                    refine e_ib (z := i + 2) (pc' := 559) i200_558 rfl rfl ?_
                    obtain ⟨g149, H⟩ := H
                    refine e_als (y := xs (i + 2).toNatClampNeg) (pc' := 560) i200_559 rfl g149 rfl ?_
                    obtain ⟨r151, s150, H⟩ := H
                    refine e_cI (w := .long r151) (As := [.ref 397, .int (xs (i + 1).toNatClampNeg), .int (xs (i + 2).toNatClampNeg)]) (rest := [.long r147]) (pc' := 563) i200_560 rfl rfl rfl rfl (by show (Nat.beq (x_kd 143) 0 && x_is 397 _ (MC 143) 0) = true; rw [show x_kd 143 = 0 by decide +kernel, show MC 143 = 11 by decide +kernel, (x_isC (by decide) hw.1 sh397)]; rfl) s150 ?_
                    refine e_lcmp (pc' := 564) i200_563 rfl ?_
                    refine e_if (pc' := 567) i200_564 rfl (fun c152 => ?_) (fun c152 => ?_)
                    · have d153 : (lg_cmp r147 r151) = 0 := (of_decide_eq_true c152)
                      replace H := H.1 d153
                      refine e_inc (z := i + 9) (ls' := [some (.retAddr 0), some (.ref 0), some (.ref 397), some (.int (i + 9))]) (pc' := 1100) i200_1097 rfl rfl rfl rfl ?_
                      refine e_go i200_1100 ?_
                      exact H
                    · have d154 : ¬ ((lg_cmp r147 r151) = 0) := (of_decide_eq_false c152)
                      replace H := H.2 d154
                      refine e_cn (pc' := 568) i200_567 rfl ?_
                      refine e_rt i200_568 rfl ?_
                      exact H
                  · replace H := H.2 c143
                    by_cases c155 : ((xs i.toNatClampNeg) &&& 31) = 8
                    · replace H := H.1 c155
                      refine e_tab (pc' := 569) i200_33 (by rw [c155]; rfl) ?_
                      refine e_ld (pc' := 570) i200_569 rfl rfl ?_
                      refine e_ld (pc' := 571) i200_570 rfl rfl ?_
                      refine e_ld (pc' := 572) i200_571 rfl rfl ?_
                      refine e_cn (pc' := 573) i200_572 rfl ?_
                      refine e_ib (z := i + 1) (pc' := 574) i200_573 rfl rfl ?_
                      obtain ⟨g156, H⟩ := H
                      refine e_als (y := xs (i + 1).toNatClampNeg) (pc' := 575) i200_574 rfl g156 rfl ?_
                      obtain ⟨r159, h157, s158, H⟩ := H
                      have w161q := HW_sp (show x_okm 92 = true by rfl) s158 hw
                      have w161 : HW h157 := w161q.1
                      refine e_cI (w := .int r159) (As := [.ref 0, .int (xs (i + 1).toNatClampNeg)]) (rest := []) (pc' := 578) i200_575 rfl rfl rfl rfl (by show (Nat.beq (x_kd 92) 0 && x_is 0 _ (MC 92) 0) = true; rw [show x_kd 92 = 0 by decide +kernel, show MC 92 = 10 by decide +kernel, (x_isC (by decide) hw.1 sh0)]; rfl) s158 ?_
                      refine e_ld (pc' := 579) i200_578 rfl rfl ?_
                      refine e_ld (pc' := 580) i200_579 rfl rfl ?_
                      refine e_ld (pc' := 581) i200_580 rfl rfl ?_
                      refine e_cn (pc' := 582) i200_581 rfl ?_
                      refine e_ib (z := i + 1) (pc' := 583) i200_582 rfl rfl ?_
                      obtain ⟨g161, H⟩ := H
                      refine e_als (y := xs (i + 1).toNatClampNeg) (pc' := 584) i200_583 rfl g161 rfl ?_
                      obtain ⟨r164, h162, s163, H⟩ := H
                      have w167q := HW_sp (show x_okm 144 = true by rfl) s163 w161
                      have w167 : HW h162 := w167q.1
                      refine e_cI (w := .int r164) (As := [.ref 397, .int (xs (i + 1).toNatClampNeg)]) (rest := [.int r159]) (pc' := 587) i200_584 rfl rfl rfl rfl (by show (Nat.beq (x_kd 144) 0 && x_is 397 _ (MC 144) 0) = true; rw [show x_kd 144 = 0 by decide +kernel, show MC 144 = 11 by decide +kernel, (x_isC (by decide) w161.1 sh397)]; rfl) s163 ?_
                      refine e_ic (pc' := 590) i200_587 rfl (fun c166 => ?_) (fun c166 => ?_)
                      · have d167 : r159 = r164 := (of_decide_eq_true c166)
                        replace H := H.1 d167
                        refine e_inc (z := i + 9) (ls' := [some (.retAddr 0), some (.ref 0), some (.ref 397), some (.int (i + 9))]) (pc' := 1100) i200_1097 rfl rfl rfl rfl ?_
                        refine e_go i200_1100 ?_
                        exact H
                      · have d168 : ¬ (r159 = r164) := (of_decide_eq_false c166)
                        replace H := H.2 d168
                        refine e_cn (pc' := 591) i200_590 rfl ?_
                        refine e_rt i200_591 rfl ?_
                        exact H
                    · replace H := H.2 c155
                      by_cases c169 : ((xs i.toNatClampNeg) &&& 31) = 9
                      · replace H := H.1 c169
                        refine e_tab (pc' := 592) i200_33 (by rw [c169]; rfl) ?_
                        refine e_ld (pc' := 593) i200_592 rfl rfl ?_
                        refine e_ld (pc' := 594) i200_593 rfl rfl ?_
                        refine e_ld (pc' := 595) i200_594 rfl rfl ?_
                        refine e_cn (pc' := 596) i200_595 rfl ?_
                        refine e_ib (z := i + 1) (pc' := 597) i200_596 rfl rfl ?_
                        obtain ⟨g170, H⟩ := H
                        refine e_als (y := xs (i + 1).toNatClampNeg) (pc' := 598) i200_597 rfl g170 rfl ?_
                        obtain ⟨r172, s171, H⟩ := H
                        refine e_cI (w := .int r172) (As := [.ref 0, .int (xs (i + 1).toNatClampNeg)]) (rest := []) (pc' := 601) i200_598 rfl rfl rfl rfl (by show (Nat.beq (x_kd 93) 0 && x_is 0 _ (MC 93) 0) = true; rw [show x_kd 93 = 0 by decide +kernel, show MC 93 = 10 by decide +kernel, (x_isC (by decide) hw.1 sh0)]; rfl) s171 ?_
                        refine e_ld (pc' := 602) i200_601 rfl rfl ?_
                        refine e_ld (pc' := 603) i200_602 rfl rfl ?_
                        refine e_ld (pc' := 604) i200_603 rfl rfl ?_
                        refine e_cn (pc' := 605) i200_604 rfl ?_
                        refine e_ib (z := i + 1) (pc' := 606) i200_605 rfl rfl ?_
                        obtain ⟨g173, H⟩ := H
                        refine e_als (y := xs (i + 1).toNatClampNeg) (pc' := 607) i200_606 rfl g173 rfl ?_
                        obtain ⟨r175, s174, H⟩ := H
                        refine e_cI (w := .int r175) (As := [.ref 397, .int (xs (i + 1).toNatClampNeg)]) (rest := [.int r172]) (pc' := 610) i200_607 rfl rfl rfl rfl (by show (Nat.beq (x_kd 145) 0 && x_is 397 _ (MC 145) 0) = true; rw [show x_kd 145 = 0 by decide +kernel, show MC 145 = 11 by decide +kernel, (x_isC (by decide) hw.1 sh397)]; rfl) s174 ?_
                        refine e_ic (pc' := 613) i200_610 rfl (fun c176 => ?_) (fun c176 => ?_)
                        · have d177 : r172 = r175 := (of_decide_eq_true c176)
                          replace H := H.1 d177
                          refine e_inc (z := i + 9) (ls' := [some (.retAddr 0), some (.ref 0), some (.ref 397), some (.int (i + 9))]) (pc' := 1100) i200_1097 rfl rfl rfl rfl ?_
                          refine e_go i200_1100 ?_
                          exact H
                        · have d178 : ¬ (r172 = r175) := (of_decide_eq_false c176)
                          replace H := H.2 d178
                          refine e_cn (pc' := 614) i200_613 rfl ?_
                          refine e_rt i200_614 rfl ?_
                          exact H
                      · replace H := H.2 c169
                        by_cases c179 : ((xs i.toNatClampNeg) &&& 31) = 10
                        · replace H := H.1 c179
                          refine e_tab (pc' := 615) i200_33 (by rw [c179]; rfl) ?_
                          refine e_ld (pc' := 616) i200_615 rfl rfl ?_
                          refine e_ld (pc' := 617) i200_616 rfl rfl ?_
                          refine e_ld (pc' := 618) i200_617 rfl rfl ?_
                          refine e_cn (pc' := 619) i200_618 rfl ?_
                          refine e_ib (z := i + 1) (pc' := 620) i200_619 rfl rfl ?_
                          obtain ⟨g180, H⟩ := H
                          refine e_als (y := xs (i + 1).toNatClampNeg) (pc' := 621) i200_620 rfl g180 rfl ?_
                          refine e_ld (pc' := 622) i200_621 rfl rfl ?_
                          refine e_ld (pc' := 623) i200_622 rfl rfl ?_
                          refine e_cn (pc' := 624) i200_623 rfl ?_
                          refine e_ib (z := i + 2) (pc' := 625) i200_624 rfl rfl ?_
                          obtain ⟨g181, H⟩ := H
                          refine e_als (y := xs (i + 2).toNatClampNeg) (pc' := 626) i200_625 rfl g181 rfl ?_
                          refine e_ld (pc' := 627) i200_626 rfl rfl ?_
                          refine e_ld (pc' := 628) i200_627 rfl rfl ?_
                          refine e_cn (pc' := 629) i200_628 rfl ?_
                          refine e_ib (z := i + 3) (pc' := 630) i200_629 rfl rfl ?_
                          obtain ⟨g182, H⟩ := H
                          refine e_als (y := xs (i + 3).toNatClampNeg) (pc' := 631) i200_630 rfl g182 rfl ?_
                          refine e_ld (pc' := 632) i200_631 rfl rfl ?_
                          refine e_ld (pc' := 633) i200_632 rfl rfl ?_
                          refine e_cn (pc' := 634) i200_633 rfl ?_
                          refine e_ib (z := i + 4) (pc' := 635) i200_634 rfl rfl ?_
                          obtain ⟨g183, H⟩ := H
                          refine e_als (y := xs (i + 4).toNatClampNeg) (pc' := 636) i200_635 rfl g183 rfl ?_
                          obtain ⟨r186, h184, s185, H⟩ := H
                          have w188q := HW_sp (show x_okm 94 = true by rfl) s185 hw
                          have w188 : HW h184 := w188q.1
                          refine e_cI (w := .int r186) (As := [.ref 0, .int (xs (i + 1).toNatClampNeg), .int (xs (i + 2).toNatClampNeg), .int (xs (i + 3).toNatClampNeg), .int (xs (i + 4).toNatClampNeg)]) (rest := []) (pc' := 639) i200_636 rfl rfl rfl rfl (by show (Nat.beq (x_kd 94) 0 && x_is 0 _ (MC 94) 0) = true; rw [show x_kd 94 = 0 by decide +kernel, show MC 94 = 10 by decide +kernel, (x_isC (by decide) hw.1 sh0)]; rfl) s185 ?_
                          refine e_ld (pc' := 640) i200_639 rfl rfl ?_
                          refine e_ld (pc' := 641) i200_640 rfl rfl ?_
                          refine e_ld (pc' := 642) i200_641 rfl rfl ?_
                          refine e_cn (pc' := 643) i200_642 rfl ?_
                          refine e_ib (z := i + 1) (pc' := 644) i200_643 rfl rfl ?_
                          obtain ⟨g188, H⟩ := H
                          refine e_als (y := xs (i + 1).toNatClampNeg) (pc' := 645) i200_644 rfl g188 rfl ?_
                          refine e_ld (pc' := 646) i200_645 rfl rfl ?_
                          refine e_ld (pc' := 647) i200_646 rfl rfl ?_
                          refine e_cn (pc' := 648) i200_647 rfl ?_
                          refine e_ib (z := i + 2) (pc' := 649) i200_648 rfl rfl ?_
                          obtain ⟨g189, H⟩ := H
                          refine e_als (y := xs (i + 2).toNatClampNeg) (pc' := 650) i200_649 rfl g189 rfl ?_
                          refine e_ld (pc' := 651) i200_650 rfl rfl ?_
                          refine e_ld (pc' := 652) i200_651 rfl rfl ?_
                          refine e_cn (pc' := 653) i200_652 rfl ?_
                          refine e_ib (z := i + 3) (pc' := 654) i200_653 rfl rfl ?_
                          obtain ⟨g190, H⟩ := H
                          refine e_als (y := xs (i + 3).toNatClampNeg) (pc' := 655) i200_654 rfl g190 rfl ?_
                          refine e_ld (pc' := 656) i200_655 rfl rfl ?_
                          refine e_ld (pc' := 657) i200_656 rfl rfl ?_
                          refine e_cn (pc' := 658) i200_657 rfl ?_
                          refine e_ib (z := i + 4) (pc' := 659) i200_658 rfl rfl ?_
                          obtain ⟨g191, H⟩ := H
                          refine e_als (y := xs (i + 4).toNatClampNeg) (pc' := 660) i200_659 rfl g191 rfl ?_
                          obtain ⟨r194, h192, s193, H⟩ := H
                          have w197q := HW_sp (show x_okm 148 = true by rfl) s193 w188
                          have w197 : HW h192 := w197q.1
                          refine e_cI (w := .int r194) (As := [.ref 397, .int (xs (i + 1).toNatClampNeg), .int (xs (i + 2).toNatClampNeg), .int (xs (i + 3).toNatClampNeg), .int (xs (i + 4).toNatClampNeg)]) (rest := [.int r186]) (pc' := 663) i200_660 rfl rfl rfl rfl (by show (Nat.beq (x_kd 148) 0 && x_is 397 _ (MC 148) 0) = true; rw [show x_kd 148 = 0 by decide +kernel, show MC 148 = 11 by decide +kernel, (x_isC (by decide) w188.1 sh397)]; rfl) s193 ?_
                          refine e_ic (pc' := 666) i200_663 rfl (fun c196 => ?_) (fun c196 => ?_)
                          · have d197 : r186 = r194 := (of_decide_eq_true c196)
                            replace H := H.1 d197
                            refine e_inc (z := i + 9) (ls' := [some (.retAddr 0), some (.ref 0), some (.ref 397), some (.int (i + 9))]) (pc' := 1100) i200_1097 rfl rfl rfl rfl ?_
                            refine e_go i200_1100 ?_
                            exact H
                          · have d198 : ¬ (r186 = r194) := (of_decide_eq_false c196)
                            replace H := H.2 d198
                            refine e_cn (pc' := 667) i200_666 rfl ?_
                            refine e_rt i200_667 rfl ?_
                            exact H
                        · replace H := H.2 c179
                          by_cases c199 : ((xs i.toNatClampNeg) &&& 31) = 11
                          · replace H := H.1 c199
                            refine e_tab (pc' := 668) i200_33 (by rw [c199]; rfl) ?_
                            refine e_ld (pc' := 669) i200_668 rfl rfl ?_
                            refine e_ld (pc' := 670) i200_669 rfl rfl ?_
                            refine e_ld (pc' := 671) i200_670 rfl rfl ?_
                            refine e_cn (pc' := 672) i200_671 rfl ?_
                            refine e_ib (z := i + 1) (pc' := 673) i200_672 rfl rfl ?_
                            obtain ⟨g200, H⟩ := H
                            refine e_als (y := xs (i + 1).toNatClampNeg) (pc' := 674) i200_673 rfl g200 rfl ?_
                            refine e_ld (pc' := 675) i200_674 rfl rfl ?_
                            refine e_ld (pc' := 676) i200_675 rfl rfl ?_
                            refine e_cn (pc' := 677) i200_676 rfl ?_
                            refine e_ib (z := i + 2) (pc' := 678) i200_677 rfl rfl ?_
                            obtain ⟨g201, H⟩ := H
                            refine e_als (y := xs (i + 2).toNatClampNeg) (pc' := 679) i200_678 rfl g201 rfl ?_
                            refine e_ld (pc' := 680) i200_679 rfl rfl ?_
                            refine e_ld (pc' := 681) i200_680 rfl rfl ?_
                            refine e_cn (pc' := 682) i200_681 rfl ?_
                            refine e_ib (z := i + 3) (pc' := 683) i200_682 rfl rfl ?_
                            obtain ⟨g202, H⟩ := H
                            refine e_als (y := xs (i + 3).toNatClampNeg) (pc' := 684) i200_683 rfl g202 rfl ?_
                            obtain ⟨r205, h203, s204, H⟩ := H
                            have w207q := HW_sp (show x_okm 95 = true by rfl) s204 hw
                            have w207 : HW h203 := w207q.1
                            refine e_cI (w := .int r205) (As := [.ref 0, .int (xs (i + 1).toNatClampNeg), .int (xs (i + 2).toNatClampNeg), .int (xs (i + 3).toNatClampNeg)]) (rest := []) (pc' := 687) i200_684 rfl rfl rfl rfl (by show (Nat.beq (x_kd 95) 0 && x_is 0 _ (MC 95) 0) = true; rw [show x_kd 95 = 0 by decide +kernel, show MC 95 = 10 by decide +kernel, (x_isC (by decide) hw.1 sh0)]; rfl) s204 ?_
                            refine e_ld (pc' := 688) i200_687 rfl rfl ?_
                            refine e_ld (pc' := 689) i200_688 rfl rfl ?_
                            refine e_ld (pc' := 690) i200_689 rfl rfl ?_
                            refine e_cn (pc' := 691) i200_690 rfl ?_
                            refine e_ib (z := i + 1) (pc' := 692) i200_691 rfl rfl ?_
                            obtain ⟨g207, H⟩ := H
                            refine e_als (y := xs (i + 1).toNatClampNeg) (pc' := 693) i200_692 rfl g207 rfl ?_
                            refine e_ld (pc' := 694) i200_693 rfl rfl ?_
                            refine e_ld (pc' := 695) i200_694 rfl rfl ?_
                            refine e_cn (pc' := 696) i200_695 rfl ?_
                            refine e_ib (z := i + 2) (pc' := 697) i200_696 rfl rfl ?_
                            obtain ⟨g208, H⟩ := H
                            refine e_als (y := xs (i + 2).toNatClampNeg) (pc' := 698) i200_697 rfl g208 rfl ?_
                            refine e_ld (pc' := 699) i200_698 rfl rfl ?_
                            refine e_ld (pc' := 700) i200_699 rfl rfl ?_
                            refine e_cn (pc' := 701) i200_700 rfl ?_
                            refine e_ib (z := i + 3) (pc' := 702) i200_701 rfl rfl ?_
                            obtain ⟨g209, H⟩ := H
                            refine e_als (y := xs (i + 3).toNatClampNeg) (pc' := 703) i200_702 rfl g209 rfl ?_
                            obtain ⟨r212, h210, s211, H⟩ := H
                            have w215q := HW_sp (show x_okm 153 = true by rfl) s211 w207
                            have w215 : HW h210 := w215q.1
                            refine e_cI (w := .int r212) (As := [.ref 397, .int (xs (i + 1).toNatClampNeg), .int (xs (i + 2).toNatClampNeg), .int (xs (i + 3).toNatClampNeg)]) (rest := [.int r205]) (pc' := 706) i200_703 rfl rfl rfl rfl (by show (Nat.beq (x_kd 153) 0 && x_is 397 _ (MC 153) 0) = true; rw [show x_kd 153 = 0 by decide +kernel, show MC 153 = 11 by decide +kernel, (x_isC (by decide) w207.1 sh397)]; rfl) s211 ?_
                            refine e_ic (pc' := 709) i200_706 rfl (fun c214 => ?_) (fun c214 => ?_)
                            · have d215 : r205 = r212 := (of_decide_eq_true c214)
                              replace H := H.1 d215
                              refine e_inc (z := i + 9) (ls' := [some (.retAddr 0), some (.ref 0), some (.ref 397), some (.int (i + 9))]) (pc' := 1100) i200_1097 rfl rfl rfl rfl ?_
                              refine e_go i200_1100 ?_
                              exact H
                            · have d216 : ¬ (r205 = r212) := (of_decide_eq_false c214)
                              replace H := H.2 d216
                              refine e_cn (pc' := 710) i200_709 rfl ?_
                              refine e_rt i200_710 rfl ?_
                              exact H
                          · replace H := H.2 c199
                            by_cases c217 : ((xs i.toNatClampNeg) &&& 31) = 12
                            · replace H := H.1 c217
                              refine e_tab (pc' := 711) i200_33 (by rw [c217]; rfl) ?_
                              refine e_ld (pc' := 712) i200_711 rfl rfl ?_
                              refine e_ld (pc' := 713) i200_712 rfl rfl ?_
                              refine e_ld (pc' := 714) i200_713 rfl rfl ?_
                              refine e_cn (pc' := 715) i200_714 rfl ?_
                              refine e_ib (z := i + 1) (pc' := 716) i200_715 rfl rfl ?_
                              obtain ⟨g218, H⟩ := H
                              refine e_als (y := xs (i + 1).toNatClampNeg) (pc' := 717) i200_716 rfl g218 rfl ?_
                              obtain ⟨r221, h219, s220, H⟩ := H
                              have w223q := HW_sp (show x_okm 96 = true by rfl) s220 hw
                              have w223 : HW h219 := w223q.1
                              refine e_cI (w := .int r221) (As := [.ref 0, .int (xs (i + 1).toNatClampNeg)]) (rest := []) (pc' := 720) i200_717 rfl rfl rfl rfl (by show (Nat.beq (x_kd 96) 0 && x_is 0 _ (MC 96) 0) = true; rw [show x_kd 96 = 0 by decide +kernel, show MC 96 = 10 by decide +kernel, (x_isC (by decide) hw.1 sh0)]; rfl) s220 ?_
                              refine e_ld (pc' := 721) i200_720 rfl rfl ?_
                              refine e_ld (pc' := 722) i200_721 rfl rfl ?_
                              refine e_ld (pc' := 723) i200_722 rfl rfl ?_
                              refine e_cn (pc' := 724) i200_723 rfl ?_
                              refine e_ib (z := i + 1) (pc' := 725) i200_724 rfl rfl ?_
                              obtain ⟨g223, H⟩ := H
                              refine e_als (y := xs (i + 1).toNatClampNeg) (pc' := 726) i200_725 rfl g223 rfl ?_
                              obtain ⟨r226, h224, s225, H⟩ := H
                              have w229q := HW_sp (show x_okm 154 = true by rfl) s225 w223
                              have w229 : HW h224 := w229q.1
                              refine e_cI (w := .int r226) (As := [.ref 397, .int (xs (i + 1).toNatClampNeg)]) (rest := [.int r221]) (pc' := 729) i200_726 rfl rfl rfl rfl (by show (Nat.beq (x_kd 154) 0 && x_is 397 _ (MC 154) 0) = true; rw [show x_kd 154 = 0 by decide +kernel, show MC 154 = 11 by decide +kernel, (x_isC (by decide) w223.1 sh397)]; rfl) s225 ?_
                              refine e_ic (pc' := 732) i200_729 rfl (fun c228 => ?_) (fun c228 => ?_)
                              · have d229 : r221 = r226 := (of_decide_eq_true c228)
                                replace H := H.1 d229
                                refine e_inc (z := i + 9) (ls' := [some (.retAddr 0), some (.ref 0), some (.ref 397), some (.int (i + 9))]) (pc' := 1100) i200_1097 rfl rfl rfl rfl ?_
                                refine e_go i200_1100 ?_
                                exact H
                              · have d230 : ¬ (r221 = r226) := (of_decide_eq_false c228)
                                replace H := H.2 d230
                                refine e_cn (pc' := 733) i200_732 rfl ?_
                                refine e_rt i200_733 rfl ?_
                                exact H
                            · replace H := H.2 c217
                              by_cases c231 : ((xs i.toNatClampNeg) &&& 31) = 13
                              · replace H := H.1 c231
                                refine e_tab (pc' := 734) i200_33 (by rw [c231]; rfl) ?_
                                refine e_ld (pc' := 735) i200_734 rfl rfl ?_
                                refine e_ld (pc' := 736) i200_735 rfl rfl ?_
                                refine e_ld (pc' := 737) i200_736 rfl rfl ?_
                                refine e_cn (pc' := 738) i200_737 rfl ?_
                                refine e_ib (z := i + 1) (pc' := 739) i200_738 rfl rfl ?_
                                obtain ⟨g232, H⟩ := H
                                refine e_als (y := xs (i + 1).toNatClampNeg) (pc' := 740) i200_739 rfl g232 rfl ?_
                                obtain ⟨r235, h233, s234, H⟩ := H
                                have w237q := HW_sp (show x_okm 97 = true by rfl) s234 hw
                                have w237 : HW h233 := w237q.1
                                refine e_cI (w := .int r235) (As := [.ref 0, .int (xs (i + 1).toNatClampNeg)]) (rest := []) (pc' := 743) i200_740 rfl rfl rfl rfl (by show (Nat.beq (x_kd 97) 0 && x_is 0 _ (MC 97) 0) = true; rw [show x_kd 97 = 0 by decide +kernel, show MC 97 = 10 by decide +kernel, (x_isC (by decide) hw.1 sh0)]; rfl) s234 ?_
                                refine e_ld (pc' := 744) i200_743 rfl rfl ?_
                                refine e_ld (pc' := 745) i200_744 rfl rfl ?_
                                refine e_ld (pc' := 746) i200_745 rfl rfl ?_
                                refine e_cn (pc' := 747) i200_746 rfl ?_
                                refine e_ib (z := i + 1) (pc' := 748) i200_747 rfl rfl ?_
                                obtain ⟨g237, H⟩ := H
                                refine e_als (y := xs (i + 1).toNatClampNeg) (pc' := 749) i200_748 rfl g237 rfl ?_
                                obtain ⟨r240, h238, s239, H⟩ := H
                                have w243q := HW_sp (show x_okm 166 = true by rfl) s239 w237
                                have w243 : HW h238 := w243q.1
                                refine e_cI (w := .int r240) (As := [.ref 397, .int (xs (i + 1).toNatClampNeg)]) (rest := [.int r235]) (pc' := 752) i200_749 rfl rfl rfl rfl (by show (Nat.beq (x_kd 166) 0 && x_is 397 _ (MC 166) 0) = true; rw [show x_kd 166 = 0 by decide +kernel, show MC 166 = 11 by decide +kernel, (x_isC (by decide) w237.1 sh397)]; rfl) s239 ?_
                                refine e_ic (pc' := 755) i200_752 rfl (fun c242 => ?_) (fun c242 => ?_)
                                · have d243 : r235 = r240 := (of_decide_eq_true c242)
                                  replace H := H.1 d243
                                  refine e_inc (z := i + 9) (ls' := [some (.retAddr 0), some (.ref 0), some (.ref 397), some (.int (i + 9))]) (pc' := 1100) i200_1097 rfl rfl rfl rfl ?_
                                  refine e_go i200_1100 ?_
                                  exact H
                                · have d244 : ¬ (r235 = r240) := (of_decide_eq_false c242)
                                  replace H := H.2 d244
                                  refine e_cn (pc' := 756) i200_755 rfl ?_
                                  refine e_rt i200_756 rfl ?_
                                  exact H
                              · replace H := H.2 c231
                                by_cases c245 : ((xs i.toNatClampNeg) &&& 31) = 14
                                · replace H := H.1 c245
                                  refine e_tab (pc' := 757) i200_33 (by rw [c245]; rfl) ?_
                                  refine e_ld (pc' := 758) i200_757 rfl rfl ?_
                                  refine e_ld (pc' := 759) i200_758 rfl rfl ?_
                                  refine e_ld (pc' := 760) i200_759 rfl rfl ?_
                                  refine e_cn (pc' := 761) i200_760 rfl ?_
                                  refine e_ib (z := i + 1) (pc' := 762) i200_761 rfl rfl ?_
                                  obtain ⟨g246, H⟩ := H
                                  refine e_als (y := xs (i + 1).toNatClampNeg) (pc' := 763) i200_762 rfl g246 rfl ?_
                                  obtain ⟨r249, h247, s248, H⟩ := H
                                  have w251q := HW_sp (show x_okm 98 = true by rfl) s248 hw
                                  have w251 : HW h247 := w251q.1
                                  refine e_cI (w := .int r249) (As := [.ref 0, .int (xs (i + 1).toNatClampNeg)]) (rest := []) (pc' := 766) i200_763 rfl rfl rfl rfl (by show (Nat.beq (x_kd 98) 0 && x_is 0 _ (MC 98) 0) = true; rw [show x_kd 98 = 0 by decide +kernel, show MC 98 = 10 by decide +kernel, (x_isC (by decide) hw.1 sh0)]; rfl) s248 ?_
                                  refine e_ld (pc' := 767) i200_766 rfl rfl ?_
                                  refine e_ld (pc' := 768) i200_767 rfl rfl ?_
                                  refine e_ld (pc' := 769) i200_768 rfl rfl ?_
                                  refine e_cn (pc' := 770) i200_769 rfl ?_
                                  refine e_ib (z := i + 1) (pc' := 771) i200_770 rfl rfl ?_
                                  obtain ⟨g251, H⟩ := H
                                  refine e_als (y := xs (i + 1).toNatClampNeg) (pc' := 772) i200_771 rfl g251 rfl ?_
                                  obtain ⟨r254, h252, s253, H⟩ := H
                                  have w257q := HW_sp (show x_okm 173 = true by rfl) s253 w251
                                  have w257 : HW h252 := w257q.1
                                  refine e_cI (w := .int r254) (As := [.ref 397, .int (xs (i + 1).toNatClampNeg)]) (rest := [.int r249]) (pc' := 775) i200_772 rfl rfl rfl rfl (by show (Nat.beq (x_kd 173) 0 && x_is 397 _ (MC 173) 0) = true; rw [show x_kd 173 = 0 by decide +kernel, show MC 173 = 11 by decide +kernel, (x_isC (by decide) w251.1 sh397)]; rfl) s253 ?_
                                  refine e_ic (pc' := 778) i200_775 rfl (fun c256 => ?_) (fun c256 => ?_)
                                  · have d257 : r249 = r254 := (of_decide_eq_true c256)
                                    replace H := H.1 d257
                                    refine e_inc (z := i + 9) (ls' := [some (.retAddr 0), some (.ref 0), some (.ref 397), some (.int (i + 9))]) (pc' := 1100) i200_1097 rfl rfl rfl rfl ?_
                                    refine e_go i200_1100 ?_
                                    exact H
                                  · have d258 : ¬ (r249 = r254) := (of_decide_eq_false c256)
                                    replace H := H.2 d258
                                    refine e_cn (pc' := 779) i200_778 rfl ?_
                                    refine e_rt i200_779 rfl ?_
                                    exact H
                                · replace H := H.2 c245
                                  by_cases c259 : ((xs i.toNatClampNeg) &&& 31) = 15
                                  · replace H := H.1 c259
                                    refine e_tab (pc' := 780) i200_33 (by rw [c259]; rfl) ?_
                                    refine e_ld (pc' := 781) i200_780 rfl rfl ?_
                                    refine e_ld (pc' := 782) i200_781 rfl rfl ?_
                                    refine e_ld (pc' := 783) i200_782 rfl rfl ?_
                                    refine e_cn (pc' := 784) i200_783 rfl ?_
                                    refine e_ib (z := i + 1) (pc' := 785) i200_784 rfl rfl ?_
                                    obtain ⟨g260, H⟩ := H
                                    refine e_als (y := xs (i + 1).toNatClampNeg) (pc' := 786) i200_785 rfl g260 rfl ?_
                                    obtain ⟨r262, s261, H⟩ := H
                                    refine e_cI (w := .int r262) (As := [.ref 0, .int (xs (i + 1).toNatClampNeg)]) (rest := []) (pc' := 789) i200_786 rfl rfl rfl rfl (by show (Nat.beq (x_kd 99) 0 && x_is 0 _ (MC 99) 0) = true; rw [show x_kd 99 = 0 by decide +kernel, show MC 99 = 10 by decide +kernel, (x_isC (by decide) hw.1 sh0)]; rfl) s261 ?_
                                    refine e_ld (pc' := 790) i200_789 rfl rfl ?_
                                    refine e_ld (pc' := 791) i200_790 rfl rfl ?_
                                    refine e_ld (pc' := 792) i200_791 rfl rfl ?_
                                    refine e_cn (pc' := 793) i200_792 rfl ?_
                                    refine e_ib (z := i + 1) (pc' := 794) i200_793 rfl rfl ?_
                                    obtain ⟨g263, H⟩ := H
                                    refine e_als (y := xs (i + 1).toNatClampNeg) (pc' := 795) i200_794 rfl g263 rfl ?_
                                    obtain ⟨r265, s264, H⟩ := H
                                    refine e_cI (w := .int r265) (As := [.ref 397, .int (xs (i + 1).toNatClampNeg)]) (rest := [.int r262]) (pc' := 798) i200_795 rfl rfl rfl rfl (by show (Nat.beq (x_kd 174) 0 && x_is 397 _ (MC 174) 0) = true; rw [show x_kd 174 = 0 by decide +kernel, show MC 174 = 11 by decide +kernel, (x_isC (by decide) hw.1 sh397)]; rfl) s264 ?_
                                    refine e_ic (pc' := 801) i200_798 rfl (fun c266 => ?_) (fun c266 => ?_)
                                    · have d267 : r262 = r265 := (of_decide_eq_true c266)
                                      replace H := H.1 d267
                                      refine e_inc (z := i + 9) (ls' := [some (.retAddr 0), some (.ref 0), some (.ref 397), some (.int (i + 9))]) (pc' := 1100) i200_1097 rfl rfl rfl rfl ?_
                                      refine e_go i200_1100 ?_
                                      exact H
                                    · have d268 : ¬ (r262 = r265) := (of_decide_eq_false c266)
                                      replace H := H.2 d268
                                      refine e_cn (pc' := 802) i200_801 rfl ?_
                                      refine e_rt i200_802 rfl ?_
                                      exact H
                                  · replace H := H.2 c259
                                    by_cases c269 : ((xs i.toNatClampNeg) &&& 31) = 16
                                    · replace H := H.1 c269
                                      refine e_tab (pc' := 803) i200_33 (by rw [c269]; rfl) ?_
                                      refine e_ld (pc' := 804) i200_803 rfl rfl ?_
                                      refine e_ld (pc' := 805) i200_804 rfl rfl ?_
                                      refine e_ld (pc' := 806) i200_805 rfl rfl ?_
                                      refine e_cn (pc' := 807) i200_806 rfl ?_
                                      refine e_ib (z := i + 1) (pc' := 808) i200_807 rfl rfl ?_
                                      obtain ⟨g270, H⟩ := H
                                      refine e_als (y := xs (i + 1).toNatClampNeg) (pc' := 809) i200_808 rfl g270 rfl ?_
                                      refine e_ld (pc' := 810) i200_809 rfl rfl ?_
                                      refine e_ld (pc' := 811) i200_810 rfl rfl ?_
                                      refine e_cn (pc' := 812) i200_811 rfl ?_
                                      refine e_ib (z := i + 2) (pc' := 813) i200_812 rfl rfl ?_
                                      obtain ⟨g271, H⟩ := H
                                      refine e_als (y := xs (i + 2).toNatClampNeg) (pc' := 814) i200_813 rfl g271 rfl ?_
                                      obtain ⟨r273, s272, H⟩ := H
                                      refine e_cI (w := .int r273) (As := [.ref 0, .int (xs (i + 1).toNatClampNeg), .int (xs (i + 2).toNatClampNeg)]) (rest := []) (pc' := 817) i200_814 rfl rfl rfl rfl (by show (Nat.beq (x_kd 100) 0 && x_is 0 _ (MC 100) 0) = true; rw [show x_kd 100 = 0 by decide +kernel, show MC 100 = 10 by decide +kernel, (x_isC (by decide) hw.1 sh0)]; rfl) s272 ?_
                                      refine e_ld (pc' := 818) i200_817 rfl rfl ?_
                                      refine e_ld (pc' := 819) i200_818 rfl rfl ?_
                                      refine e_ld (pc' := 820) i200_819 rfl rfl ?_
                                      refine e_cn (pc' := 821) i200_820 rfl ?_
                                      refine e_ib (z := i + 1) (pc' := 822) i200_821 rfl rfl ?_
                                      obtain ⟨g274, H⟩ := H
                                      refine e_als (y := xs (i + 1).toNatClampNeg) (pc' := 823) i200_822 rfl g274 rfl ?_
                                      refine e_ld (pc' := 824) i200_823 rfl rfl ?_
                                      refine e_ld (pc' := 825) i200_824 rfl rfl ?_
                                      refine e_cn (pc' := 826) i200_825 rfl ?_
                                      refine e_ib (z := i + 2) (pc' := 827) i200_826 rfl rfl ?_
                                      obtain ⟨g275, H⟩ := H
                                      refine e_als (y := xs (i + 2).toNatClampNeg) (pc' := 828) i200_827 rfl g275 rfl ?_
                                      obtain ⟨r277, s276, H⟩ := H
                                      refine e_cI (w := .int r277) (As := [.ref 397, .int (xs (i + 1).toNatClampNeg), .int (xs (i + 2).toNatClampNeg)]) (rest := [.int r273]) (pc' := 831) i200_828 rfl rfl rfl rfl (by show (Nat.beq (x_kd 175) 0 && x_is 397 _ (MC 175) 0) = true; rw [show x_kd 175 = 0 by decide +kernel, show MC 175 = 11 by decide +kernel, (x_isC (by decide) hw.1 sh397)]; rfl) s276 ?_
                                      refine e_ic (pc' := 834) i200_831 rfl (fun c278 => ?_) (fun c278 => ?_)
                                      · have d279 : r273 = r277 := (of_decide_eq_true c278)
                                        replace H := H.1 d279
                                        refine e_inc (z := i + 9) (ls' := [some (.retAddr 0), some (.ref 0), some (.ref 397), some (.int (i + 9))]) (pc' := 1100) i200_1097 rfl rfl rfl rfl ?_
                                        refine e_go i200_1100 ?_
                                        exact H
                                      · have d280 : ¬ (r273 = r277) := (of_decide_eq_false c278)
                                        replace H := H.2 d280
                                        refine e_cn (pc' := 835) i200_834 rfl ?_
                                        refine e_rt i200_835 rfl ?_
                                        exact H
                                    · replace H := H.2 c269
                                      by_cases c281 : ((xs i.toNatClampNeg) &&& 31) = 17
                                      · replace H := H.1 c281
                                        refine e_tab (pc' := 836) i200_33 (by rw [c281]; rfl) ?_
                                        refine e_ld (pc' := 837) i200_836 rfl rfl ?_
                                        refine e_ld (pc' := 838) i200_837 rfl rfl ?_
                                        refine e_ld (pc' := 839) i200_838 rfl rfl ?_
                                        refine e_cn (pc' := 840) i200_839 rfl ?_
                                        refine e_ib (z := i + 1) (pc' := 841) i200_840 rfl rfl ?_
                                        obtain ⟨g282, H⟩ := H
                                        refine e_als (y := xs (i + 1).toNatClampNeg) (pc' := 842) i200_841 rfl g282 rfl ?_
                                        refine e_ld (pc' := 843) i200_842 rfl rfl ?_
                                        refine e_ld (pc' := 844) i200_843 rfl rfl ?_
                                        refine e_cn (pc' := 845) i200_844 rfl ?_
                                        refine e_ib (z := i + 2) (pc' := 846) i200_845 rfl rfl ?_
                                        obtain ⟨g283, H⟩ := H
                                        refine e_als (y := xs (i + 2).toNatClampNeg) (pc' := 847) i200_846 rfl g283 rfl ?_
                                        obtain ⟨r285, s284, H⟩ := H
                                        refine e_cI (w := .int r285) (As := [.ref 0, .int (xs (i + 1).toNatClampNeg), .int (xs (i + 2).toNatClampNeg)]) (rest := []) (pc' := 850) i200_847 rfl rfl rfl rfl (by show (Nat.beq (x_kd 101) 0 && x_is 0 _ (MC 101) 0) = true; rw [show x_kd 101 = 0 by decide +kernel, show MC 101 = 10 by decide +kernel, (x_isC (by decide) hw.1 sh0)]; rfl) s284 ?_
                                        refine e_ld (pc' := 851) i200_850 rfl rfl ?_
                                        refine e_ld (pc' := 852) i200_851 rfl rfl ?_
                                        refine e_ld (pc' := 853) i200_852 rfl rfl ?_
                                        refine e_cn (pc' := 854) i200_853 rfl ?_
                                        refine e_ib (z := i + 1) (pc' := 855) i200_854 rfl rfl ?_
                                        obtain ⟨g286, H⟩ := H
                                        refine e_als (y := xs (i + 1).toNatClampNeg) (pc' := 856) i200_855 rfl g286 rfl ?_
                                        refine e_ld (pc' := 857) i200_856 rfl rfl ?_
                                        refine e_ld (pc' := 858) i200_857 rfl rfl ?_
                                        refine e_cn (pc' := 859) i200_858 rfl ?_
                                        refine e_ib (z := i + 2) (pc' := 860) i200_859 rfl rfl ?_
                                        obtain ⟨g287, H⟩ := H
                                        refine e_als (y := xs (i + 2).toNatClampNeg) (pc' := 861) i200_860 rfl g287 rfl ?_
                                        obtain ⟨r289, s288, H⟩ := H
                                        refine e_cI (w := .int r289) (As := [.ref 397, .int (xs (i + 1).toNatClampNeg), .int (xs (i + 2).toNatClampNeg)]) (rest := [.int r285]) (pc' := 864) i200_861 rfl rfl rfl rfl (by show (Nat.beq (x_kd 176) 0 && x_is 397 _ (MC 176) 0) = true; rw [show x_kd 176 = 0 by decide +kernel, show MC 176 = 11 by decide +kernel, (x_isC (by decide) hw.1 sh397)]; rfl) s288 ?_
                                        refine e_ic (pc' := 867) i200_864 rfl (fun c290 => ?_) (fun c290 => ?_)
                                        · have d291 : r285 = r289 := (of_decide_eq_true c290)
                                          replace H := H.1 d291
                                          refine e_inc (z := i + 9) (ls' := [some (.retAddr 0), some (.ref 0), some (.ref 397), some (.int (i + 9))]) (pc' := 1100) i200_1097 rfl rfl rfl rfl ?_
                                          refine e_go i200_1100 ?_
                                          exact H
                                        · have d292 : ¬ (r285 = r289) := (of_decide_eq_false c290)
                                          replace H := H.2 d292
                                          refine e_cn (pc' := 868) i200_867 rfl ?_
                                          refine e_rt i200_868 rfl ?_
                                          exact H
                                      · replace H := H.2 c281
                                        by_cases c293 : ((xs i.toNatClampNeg) &&& 31) = 18
                                        · replace H := H.1 c293
                                          refine e_tab (pc' := 869) i200_33 (by rw [c293]; rfl) ?_
                                          refine e_ld (pc' := 870) i200_869 rfl rfl ?_
                                          refine e_ld (pc' := 871) i200_870 rfl rfl ?_
                                          refine e_ld (pc' := 872) i200_871 rfl rfl ?_
                                          refine e_cn (pc' := 873) i200_872 rfl ?_
                                          refine e_ib (z := i + 1) (pc' := 874) i200_873 rfl rfl ?_
                                          obtain ⟨g294, H⟩ := H
                                          refine e_als (y := xs (i + 1).toNatClampNeg) (pc' := 875) i200_874 rfl g294 rfl ?_
                                          obtain ⟨r296, s295, H⟩ := H
                                          refine e_cI (w := .int r296) (As := [.ref 0, .int (xs (i + 1).toNatClampNeg)]) (rest := []) (pc' := 878) i200_875 rfl rfl rfl rfl (by show (Nat.beq (x_kd 102) 0 && x_is 0 _ (MC 102) 0) = true; rw [show x_kd 102 = 0 by decide +kernel, show MC 102 = 10 by decide +kernel, (x_isC (by decide) hw.1 sh0)]; rfl) s295 ?_
                                          refine e_ld (pc' := 879) i200_878 rfl rfl ?_
                                          refine e_ld (pc' := 880) i200_879 rfl rfl ?_
                                          refine e_ld (pc' := 881) i200_880 rfl rfl ?_
                                          refine e_cn (pc' := 882) i200_881 rfl ?_
                                          refine e_ib (z := i + 1) (pc' := 883) i200_882 rfl rfl ?_
                                          obtain ⟨g297, H⟩ := H
                                          refine e_als (y := xs (i + 1).toNatClampNeg) (pc' := 884) i200_883 rfl g297 rfl ?_
                                          obtain ⟨r299, s298, H⟩ := H
                                          refine e_cI (w := .int r299) (As := [.ref 397, .int (xs (i + 1).toNatClampNeg)]) (rest := [.int r296]) (pc' := 887) i200_884 rfl rfl rfl rfl (by show (Nat.beq (x_kd 177) 0 && x_is 397 _ (MC 177) 0) = true; rw [show x_kd 177 = 0 by decide +kernel, show MC 177 = 11 by decide +kernel, (x_isC (by decide) hw.1 sh397)]; rfl) s298 ?_
                                          refine e_ic (pc' := 890) i200_887 rfl (fun c300 => ?_) (fun c300 => ?_)
                                          · have d301 : r296 = r299 := (of_decide_eq_true c300)
                                            replace H := H.1 d301
                                            refine e_inc (z := i + 9) (ls' := [some (.retAddr 0), some (.ref 0), some (.ref 397), some (.int (i + 9))]) (pc' := 1100) i200_1097 rfl rfl rfl rfl ?_
                                            refine e_go i200_1100 ?_
                                            exact H
                                          · have d302 : ¬ (r296 = r299) := (of_decide_eq_false c300)
                                            replace H := H.2 d302
                                            refine e_cn (pc' := 891) i200_890 rfl ?_
                                            refine e_rt i200_891 rfl ?_
                                            exact H
                                        · replace H := H.2 c293
                                          by_cases c303 : ((xs i.toNatClampNeg) &&& 31) = 19
                                          · replace H := H.1 c303
                                            refine e_tab (pc' := 892) i200_33 (by rw [c303]; rfl) ?_
                                            refine e_ld (pc' := 893) i200_892 rfl rfl ?_
                                            refine e_ld (pc' := 894) i200_893 rfl rfl ?_
                                            refine e_ld (pc' := 895) i200_894 rfl rfl ?_
                                            refine e_cn (pc' := 896) i200_895 rfl ?_
                                            refine e_ib (z := i + 1) (pc' := 897) i200_896 rfl rfl ?_
                                            obtain ⟨g304, H⟩ := H
                                            refine e_als (y := xs (i + 1).toNatClampNeg) (pc' := 898) i200_897 rfl g304 rfl ?_
                                            refine e_ld (pc' := 899) i200_898 rfl rfl ?_
                                            refine e_ld (pc' := 900) i200_899 rfl rfl ?_
                                            refine e_cn (pc' := 901) i200_900 rfl ?_
                                            refine e_ib (z := i + 2) (pc' := 902) i200_901 rfl rfl ?_
                                            obtain ⟨g305, H⟩ := H
                                            refine e_als (y := xs (i + 2).toNatClampNeg) (pc' := 903) i200_902 rfl g305 rfl ?_
                                            refine e_ld (pc' := 904) i200_903 rfl rfl ?_
                                            refine e_ld (pc' := 905) i200_904 rfl rfl ?_
                                            refine e_cn (pc' := 906) i200_905 rfl ?_
                                            refine e_ib (z := i + 3) (pc' := 907) i200_906 rfl rfl ?_
                                            obtain ⟨g306, H⟩ := H
                                            refine e_als (y := xs (i + 3).toNatClampNeg) (pc' := 908) i200_907 rfl g306 rfl ?_
                                            obtain ⟨r309, h307, s308, H⟩ := H
                                            have w311q := HW_sp (show x_okm 103 = true by rfl) s308 hw
                                            have w311 : HW h307 := w311q.1
                                            refine e_cI (w := .int r309) (As := [.ref 0, .int (xs (i + 1).toNatClampNeg), .int (xs (i + 2).toNatClampNeg), .int (xs (i + 3).toNatClampNeg)]) (rest := []) (pc' := 911) i200_908 rfl rfl rfl rfl (by show (Nat.beq (x_kd 103) 0 && x_is 0 _ (MC 103) 0) = true; rw [show x_kd 103 = 0 by decide +kernel, show MC 103 = 10 by decide +kernel, (x_isC (by decide) hw.1 sh0)]; rfl) s308 ?_
                                            refine e_ld (pc' := 912) i200_911 rfl rfl ?_
                                            refine e_ld (pc' := 913) i200_912 rfl rfl ?_
                                            refine e_ld (pc' := 914) i200_913 rfl rfl ?_
                                            refine e_cn (pc' := 915) i200_914 rfl ?_
                                            refine e_ib (z := i + 1) (pc' := 916) i200_915 rfl rfl ?_
                                            obtain ⟨g311, H⟩ := H
                                            refine e_als (y := xs (i + 1).toNatClampNeg) (pc' := 917) i200_916 rfl g311 rfl ?_
                                            refine e_ld (pc' := 918) i200_917 rfl rfl ?_
                                            refine e_ld (pc' := 919) i200_918 rfl rfl ?_
                                            refine e_cn (pc' := 920) i200_919 rfl ?_
                                            refine e_ib (z := i + 2) (pc' := 921) i200_920 rfl rfl ?_
                                            obtain ⟨g312, H⟩ := H
                                            refine e_als (y := xs (i + 2).toNatClampNeg) (pc' := 922) i200_921 rfl g312 rfl ?_
                                            refine e_ld (pc' := 923) i200_922 rfl rfl ?_
                                            refine e_ld (pc' := 924) i200_923 rfl rfl ?_
                                            refine e_cn (pc' := 925) i200_924 rfl ?_
                                            refine e_ib (z := i + 3) (pc' := 926) i200_925 rfl rfl ?_
                                            obtain ⟨g313, H⟩ := H
                                            refine e_als (y := xs (i + 3).toNatClampNeg) (pc' := 927) i200_926 rfl g313 rfl ?_
                                            obtain ⟨r316, h314, s315, H⟩ := H
                                            have w319q := HW_sp (show x_okm 182 = true by rfl) s315 w311
                                            have w319 : HW h314 := w319q.1
                                            refine e_cI (w := .int r316) (As := [.ref 397, .int (xs (i + 1).toNatClampNeg), .int (xs (i + 2).toNatClampNeg), .int (xs (i + 3).toNatClampNeg)]) (rest := [.int r309]) (pc' := 930) i200_927 rfl rfl rfl rfl (by show (Nat.beq (x_kd 182) 0 && x_is 397 _ (MC 182) 0) = true; rw [show x_kd 182 = 0 by decide +kernel, show MC 182 = 11 by decide +kernel, (x_isC (by decide) w311.1 sh397)]; rfl) s315 ?_
                                            refine e_ic (pc' := 933) i200_930 rfl (fun c318 => ?_) (fun c318 => ?_)
                                            · have d319 : r309 = r316 := (of_decide_eq_true c318)
                                              replace H := H.1 d319
                                              refine e_inc (z := i + 9) (ls' := [some (.retAddr 0), some (.ref 0), some (.ref 397), some (.int (i + 9))]) (pc' := 1100) i200_1097 rfl rfl rfl rfl ?_
                                              refine e_go i200_1100 ?_
                                              exact H
                                            · have d320 : ¬ (r309 = r316) := (of_decide_eq_false c318)
                                              replace H := H.2 d320
                                              refine e_cn (pc' := 934) i200_933 rfl ?_
                                              refine e_rt i200_934 rfl ?_
                                              exact H
                                          · replace H := H.2 c303
                                            by_cases c321 : ((xs i.toNatClampNeg) &&& 31) = 20
                                            · replace H := H.1 c321
                                              refine e_tab (pc' := 935) i200_33 (by rw [c321]; rfl) ?_
                                              refine e_ld (pc' := 936) i200_935 rfl rfl ?_
                                              refine e_ld (pc' := 937) i200_936 rfl rfl ?_
                                              refine e_ld (pc' := 938) i200_937 rfl rfl ?_
                                              refine e_cn (pc' := 939) i200_938 rfl ?_
                                              refine e_ib (z := i + 1) (pc' := 940) i200_939 rfl rfl ?_
                                              obtain ⟨g322, H⟩ := H
                                              refine e_als (y := xs (i + 1).toNatClampNeg) (pc' := 941) i200_940 rfl g322 rfl ?_
                                              obtain ⟨r324, s323, H⟩ := H
                                              refine e_cI (w := .int r324) (As := [.ref 0, .int (xs (i + 1).toNatClampNeg)]) (rest := []) (pc' := 944) i200_941 rfl rfl rfl rfl (by show (Nat.beq (x_kd 104) 0 && x_is 0 _ (MC 104) 0) = true; rw [show x_kd 104 = 0 by decide +kernel, show MC 104 = 10 by decide +kernel, (x_isC (by decide) hw.1 sh0)]; rfl) s323 ?_
                                              refine e_ld (pc' := 945) i200_944 rfl rfl ?_
                                              refine e_ld (pc' := 946) i200_945 rfl rfl ?_
                                              refine e_ld (pc' := 947) i200_946 rfl rfl ?_
                                              refine e_cn (pc' := 948) i200_947 rfl ?_
                                              refine e_ib (z := i + 1) (pc' := 949) i200_948 rfl rfl ?_
                                              obtain ⟨g325, H⟩ := H
                                              refine e_als (y := xs (i + 1).toNatClampNeg) (pc' := 950) i200_949 rfl g325 rfl ?_
                                              obtain ⟨r327, s326, H⟩ := H
                                              refine e_cI (w := .int r327) (As := [.ref 397, .int (xs (i + 1).toNatClampNeg)]) (rest := [.int r324]) (pc' := 953) i200_950 rfl rfl rfl rfl (by show (Nat.beq (x_kd 183) 0 && x_is 397 _ (MC 183) 0) = true; rw [show x_kd 183 = 0 by decide +kernel, show MC 183 = 11 by decide +kernel, (x_isC (by decide) hw.1 sh397)]; rfl) s326 ?_
                                              refine e_ic (pc' := 956) i200_953 rfl (fun c328 => ?_) (fun c328 => ?_)
                                              · have d329 : r324 = r327 := (of_decide_eq_true c328)
                                                replace H := H.1 d329
                                                refine e_inc (z := i + 9) (ls' := [some (.retAddr 0), some (.ref 0), some (.ref 397), some (.int (i + 9))]) (pc' := 1100) i200_1097 rfl rfl rfl rfl ?_
                                                refine e_go i200_1100 ?_
                                                exact H
                                              · have d330 : ¬ (r324 = r327) := (of_decide_eq_false c328)
                                                replace H := H.2 d330
                                                refine e_cn (pc' := 957) i200_956 rfl ?_
                                                refine e_rt i200_957 rfl ?_
                                                exact H
                                            · replace H := H.2 c321
                                              by_cases c331 : ((xs i.toNatClampNeg) &&& 31) = 21
                                              · replace H := H.1 c331
                                                refine e_tab (pc' := 958) i200_33 (by rw [c331]; rfl) ?_
                                                refine e_ld (pc' := 959) i200_958 rfl rfl ?_
                                                refine e_ld (pc' := 960) i200_959 rfl rfl ?_
                                                refine e_ld (pc' := 961) i200_960 rfl rfl ?_
                                                refine e_cn (pc' := 962) i200_961 rfl ?_
                                                refine e_ib (z := i + 1) (pc' := 963) i200_962 rfl rfl ?_
                                                obtain ⟨g332, H⟩ := H
                                                refine e_als (y := xs (i + 1).toNatClampNeg) (pc' := 964) i200_963 rfl g332 rfl ?_
                                                refine e_ld (pc' := 965) i200_964 rfl rfl ?_
                                                refine e_ld (pc' := 966) i200_965 rfl rfl ?_
                                                refine e_cn (pc' := 967) i200_966 rfl ?_
                                                refine e_ib (z := i + 2) (pc' := 968) i200_967 rfl rfl ?_
                                                obtain ⟨g333, H⟩ := H
                                                refine e_als (y := xs (i + 2).toNatClampNeg) (pc' := 969) i200_968 rfl g333 rfl ?_
                                                refine e_reg (pc' := 977) (ls' := [some (.retAddr 0), some (.ref 0), some (.ref 397), some (.int i)]) (st' := [.int (b2i (if (xs (i + 2).toNatClampNeg) = 0 then (false) else (true))), .int (xs (i + 1).toNatClampNeg), .ref 0]) (fun kj334 => ?_) ?_
                                                · skip
                                                  refine e_if (pc' := 972) i200_969 rfl (fun c335 => ?_) (fun c335 => ?_)
                                                  · have d336 : (xs (i + 2).toNatClampNeg) = 0 := (of_decide_eq_true c335)
                                                    refine e_cn (pc' := 977) i200_976 rfl ?_
                                                    exact (by simp only [if_pos d336] at kj334 ⊢; exact kj334)
                                                  · have d337 : ¬ ((xs (i + 2).toNatClampNeg) = 0) := (of_decide_eq_false c335)
                                                    refine e_cn (pc' := 973) i200_972 rfl ?_
                                                    refine e_go i200_973 ?_
                                                    exact (by simp only [if_neg d337] at kj334 ⊢; exact kj334)
                                                obtain ⟨r339, s338, H⟩ := H
                                                refine e_cI (w := .long r339) (As := [.ref 0, .int (xs (i + 1).toNatClampNeg), .int (b2i (if (xs (i + 2).toNatClampNeg) = 0 then (false) else (true)))]) (rest := []) (pc' := 980) i200_977 rfl rfl rfl rfl (by show (Nat.beq (x_kd 105) 0 && x_is 0 _ (MC 105) 0) = true; rw [show x_kd 105 = 0 by decide +kernel, show MC 105 = 10 by decide +kernel, (x_isC (by decide) hw.1 sh0)]; rfl) s338 ?_
                                                refine e_ld (pc' := 981) i200_980 rfl rfl ?_
                                                refine e_ld (pc' := 982) i200_981 rfl rfl ?_
                                                refine e_ld (pc' := 983) i200_982 rfl rfl ?_
                                                refine e_cn (pc' := 984) i200_983 rfl ?_
                                                refine e_ib (z := i + 1) (pc' := 985) i200_984 rfl rfl ?_
                                                obtain ⟨g340, H⟩ := H
                                                refine e_als (y := xs (i + 1).toNatClampNeg) (pc' := 986) i200_985 rfl g340 rfl ?_
                                                refine e_ld (pc' := 987) i200_986 rfl rfl ?_
                                                refine e_ld (pc' := 988) i200_987 rfl rfl ?_
                                                refine e_cn (pc' := 989) i200_988 rfl ?_
                                                refine e_ib (z := i + 2) (pc' := 990) i200_989 rfl rfl ?_
                                                obtain ⟨g341, H⟩ := H
                                                refine e_als (y := xs (i + 2).toNatClampNeg) (pc' := 991) i200_990 rfl g341 rfl ?_
                                                refine e_reg (pc' := 999) (ls' := [some (.retAddr 0), some (.ref 0), some (.ref 397), some (.int i)]) (st' := [.int (b2i (if (xs (i + 2).toNatClampNeg) = 0 then (false) else (true))), .int (xs (i + 1).toNatClampNeg), .ref 397, .long r339]) (fun kj342 => ?_) ?_
                                                · skip
                                                  refine e_if (pc' := 994) i200_991 rfl (fun c343 => ?_) (fun c343 => ?_)
                                                  · have d344 : (xs (i + 2).toNatClampNeg) = 0 := (of_decide_eq_true c343)
                                                    refine e_cn (pc' := 999) i200_998 rfl ?_
                                                    exact (by simp only [if_pos d344] at kj342 ⊢; exact kj342)
                                                  · have d345 : ¬ ((xs (i + 2).toNatClampNeg) = 0) := (of_decide_eq_false c343)
                                                    refine e_cn (pc' := 995) i200_994 rfl ?_
                                                    refine e_go i200_995 ?_
                                                    exact (by simp only [if_neg d345] at kj342 ⊢; exact kj342)
                                                obtain ⟨r347, s346, H⟩ := H
                                                refine e_cI (w := .long r347) (As := [.ref 397, .int (xs (i + 1).toNatClampNeg), .int (b2i (if (xs (i + 2).toNatClampNeg) = 0 then (false) else (true)))]) (rest := [.long r339]) (pc' := 1002) i200_999 rfl rfl rfl rfl (by show (Nat.beq (x_kd 184) 0 && x_is 397 _ (MC 184) 0) = true; rw [show x_kd 184 = 0 by decide +kernel, show MC 184 = 11 by decide +kernel, (x_isC (by decide) hw.1 sh397)]; rfl) s346 ?_
                                                refine e_lcmp (pc' := 1003) i200_1002 rfl ?_
                                                refine e_if (pc' := 1006) i200_1003 rfl (fun c348 => ?_) (fun c348 => ?_)
                                                · have d349 : (lg_cmp r339 r347) = 0 := (of_decide_eq_true c348)
                                                  replace H := H.1 d349
                                                  refine e_inc (z := i + 9) (ls' := [some (.retAddr 0), some (.ref 0), some (.ref 397), some (.int (i + 9))]) (pc' := 1100) i200_1097 rfl rfl rfl rfl ?_
                                                  refine e_go i200_1100 ?_
                                                  exact H
                                                · have d350 : ¬ ((lg_cmp r339 r347) = 0) := (of_decide_eq_false c348)
                                                  replace H := H.2 d350
                                                  refine e_cn (pc' := 1007) i200_1006 rfl ?_
                                                  refine e_rt i200_1007 rfl ?_
                                                  exact H
                                              · replace H := H.2 c331
                                                by_cases c351 : ((xs i.toNatClampNeg) &&& 31) = 22
                                                · replace H := H.1 c351
                                                  refine e_tab (pc' := 1008) i200_33 (by rw [c351]; rfl) ?_
                                                  refine e_ld (pc' := 1009) i200_1008 rfl rfl ?_
                                                  refine e_ld (pc' := 1010) i200_1009 rfl rfl ?_
                                                  refine e_ld (pc' := 1011) i200_1010 rfl rfl ?_
                                                  refine e_cn (pc' := 1012) i200_1011 rfl ?_
                                                  refine e_ib (z := i + 1) (pc' := 1013) i200_1012 rfl rfl ?_
                                                  obtain ⟨g352, H⟩ := H
                                                  refine e_als (y := xs (i + 1).toNatClampNeg) (pc' := 1014) i200_1013 rfl g352 rfl ?_
                                                  refine e_ld (pc' := 1015) i200_1014 rfl rfl ?_
                                                  refine e_ld (pc' := 1016) i200_1015 rfl rfl ?_
                                                  refine e_cn (pc' := 1017) i200_1016 rfl ?_
                                                  refine e_ib (z := i + 2) (pc' := 1018) i200_1017 rfl rfl ?_
                                                  obtain ⟨g353, H⟩ := H
                                                  refine e_als (y := xs (i + 2).toNatClampNeg) (pc' := 1019) i200_1018 rfl g353 rfl ?_
                                                  obtain ⟨r356, h354, s355, H⟩ := H
                                                  have w358q := HW_sp (show x_okm 106 = true by rfl) s355 hw
                                                  have w358 : HW h354 := w358q.1
                                                  refine e_cI (w := .int r356) (As := [.ref 0, .int (xs (i + 1).toNatClampNeg), .int (xs (i + 2).toNatClampNeg)]) (rest := []) (pc' := 1022) i200_1019 rfl rfl rfl rfl (by show (Nat.beq (x_kd 106) 0 && x_is 0 _ (MC 106) 0) = true; rw [show x_kd 106 = 0 by decide +kernel, show MC 106 = 10 by decide +kernel, (x_isC (by decide) hw.1 sh0)]; rfl) s355 ?_
                                                  refine e_ld (pc' := 1023) i200_1022 rfl rfl ?_
                                                  refine e_ld (pc' := 1024) i200_1023 rfl rfl ?_
                                                  refine e_ld (pc' := 1025) i200_1024 rfl rfl ?_
                                                  refine e_cn (pc' := 1026) i200_1025 rfl ?_
                                                  refine e_ib (z := i + 1) (pc' := 1027) i200_1026 rfl rfl ?_
                                                  obtain ⟨g358, H⟩ := H
                                                  refine e_als (y := xs (i + 1).toNatClampNeg) (pc' := 1028) i200_1027 rfl g358 rfl ?_
                                                  refine e_ld (pc' := 1029) i200_1028 rfl rfl ?_
                                                  refine e_ld (pc' := 1030) i200_1029 rfl rfl ?_
                                                  refine e_cn (pc' := 1031) i200_1030 rfl ?_
                                                  refine e_ib (z := i + 2) (pc' := 1032) i200_1031 rfl rfl ?_
                                                  obtain ⟨g359, H⟩ := H
                                                  refine e_als (y := xs (i + 2).toNatClampNeg) (pc' := 1033) i200_1032 rfl g359 rfl ?_
                                                  obtain ⟨r362, h360, s361, H⟩ := H
                                                  have w365q := HW_sp (show x_okm 190 = true by rfl) s361 w358
                                                  have w365 : HW h360 := w365q.1
                                                  refine e_cI (w := .int r362) (As := [.ref 397, .int (xs (i + 1).toNatClampNeg), .int (xs (i + 2).toNatClampNeg)]) (rest := [.int r356]) (pc' := 1036) i200_1033 rfl rfl rfl rfl (by show (Nat.beq (x_kd 190) 0 && x_is 397 _ (MC 190) 0) = true; rw [show x_kd 190 = 0 by decide +kernel, show MC 190 = 11 by decide +kernel, (x_isC (by decide) w358.1 sh397)]; rfl) s361 ?_
                                                  refine e_ic (pc' := 1039) i200_1036 rfl (fun c364 => ?_) (fun c364 => ?_)
                                                  · have d365 : r356 = r362 := (of_decide_eq_true c364)
                                                    replace H := H.1 d365
                                                    refine e_inc (z := i + 9) (ls' := [some (.retAddr 0), some (.ref 0), some (.ref 397), some (.int (i + 9))]) (pc' := 1100) i200_1097 rfl rfl rfl rfl ?_
                                                    refine e_go i200_1100 ?_
                                                    exact H
                                                  · have d366 : ¬ (r356 = r362) := (of_decide_eq_false c364)
                                                    replace H := H.2 d366
                                                    refine e_cn (pc' := 1040) i200_1039 rfl ?_
                                                    refine e_rt i200_1040 rfl ?_
                                                    exact H
                                                · replace H := H.2 c351
                                                  by_cases c367 : ((xs i.toNatClampNeg) &&& 31) = 23
                                                  · replace H := H.1 c367
                                                    refine e_tab (pc' := 1041) i200_33 (by rw [c367]; rfl) ?_
                                                    refine e_ld (pc' := 1042) i200_1041 rfl rfl ?_
                                                    refine e_ld (pc' := 1043) i200_1042 rfl rfl ?_
                                                    refine e_ld (pc' := 1044) i200_1043 rfl rfl ?_
                                                    refine e_cn (pc' := 1045) i200_1044 rfl ?_
                                                    refine e_ib (z := i + 1) (pc' := 1046) i200_1045 rfl rfl ?_
                                                    obtain ⟨g368, H⟩ := H
                                                    refine e_als (y := xs (i + 1).toNatClampNeg) (pc' := 1047) i200_1046 rfl g368 rfl ?_
                                                    refine e_ld (pc' := 1048) i200_1047 rfl rfl ?_
                                                    refine e_ld (pc' := 1049) i200_1048 rfl rfl ?_
                                                    refine e_cn (pc' := 1050) i200_1049 rfl ?_
                                                    refine e_ib (z := i + 2) (pc' := 1051) i200_1050 rfl rfl ?_
                                                    obtain ⟨g369, H⟩ := H
                                                    refine e_als (y := xs (i + 2).toNatClampNeg) (pc' := 1052) i200_1051 rfl g369 rfl ?_
                                                    obtain ⟨r372, h370, s371, H⟩ := H
                                                    have w374q := HW_sp (show x_okm 107 = true by rfl) s371 hw
                                                    have w374 : HW h370 := w374q.1
                                                    refine e_cI (w := .int r372) (As := [.ref 0, .int (xs (i + 1).toNatClampNeg), .int (xs (i + 2).toNatClampNeg)]) (rest := []) (pc' := 1055) i200_1052 rfl rfl rfl rfl (by show (Nat.beq (x_kd 107) 0 && x_is 0 _ (MC 107) 0) = true; rw [show x_kd 107 = 0 by decide +kernel, show MC 107 = 10 by decide +kernel, (x_isC (by decide) hw.1 sh0)]; rfl) s371 ?_
                                                    refine e_ld (pc' := 1056) i200_1055 rfl rfl ?_
                                                    refine e_ld (pc' := 1057) i200_1056 rfl rfl ?_
                                                    refine e_ld (pc' := 1058) i200_1057 rfl rfl ?_
                                                    refine e_cn (pc' := 1059) i200_1058 rfl ?_
                                                    refine e_ib (z := i + 1) (pc' := 1060) i200_1059 rfl rfl ?_
                                                    obtain ⟨g374, H⟩ := H
                                                    refine e_als (y := xs (i + 1).toNatClampNeg) (pc' := 1061) i200_1060 rfl g374 rfl ?_
                                                    refine e_ld (pc' := 1062) i200_1061 rfl rfl ?_
                                                    refine e_ld (pc' := 1063) i200_1062 rfl rfl ?_
                                                    refine e_cn (pc' := 1064) i200_1063 rfl ?_
                                                    refine e_ib (z := i + 2) (pc' := 1065) i200_1064 rfl rfl ?_
                                                    obtain ⟨g375, H⟩ := H
                                                    refine e_als (y := xs (i + 2).toNatClampNeg) (pc' := 1066) i200_1065 rfl g375 rfl ?_
                                                    obtain ⟨r378, h376, s377, H⟩ := H
                                                    have w381q := HW_sp (show x_okm 192 = true by rfl) s377 w374
                                                    have w381 : HW h376 := w381q.1
                                                    refine e_cI (w := .int r378) (As := [.ref 397, .int (xs (i + 1).toNatClampNeg), .int (xs (i + 2).toNatClampNeg)]) (rest := [.int r372]) (pc' := 1069) i200_1066 rfl rfl rfl rfl (by show (Nat.beq (x_kd 192) 0 && x_is 397 _ (MC 192) 0) = true; rw [show x_kd 192 = 0 by decide +kernel, show MC 192 = 11 by decide +kernel, (x_isC (by decide) w374.1 sh397)]; rfl) s377 ?_
                                                    refine e_ic (pc' := 1072) i200_1069 rfl (fun c380 => ?_) (fun c380 => ?_)
                                                    · have d381 : r372 = r378 := (of_decide_eq_true c380)
                                                      replace H := H.1 d381
                                                      refine e_inc (z := i + 9) (ls' := [some (.retAddr 0), some (.ref 0), some (.ref 397), some (.int (i + 9))]) (pc' := 1100) i200_1097 rfl rfl rfl rfl ?_
                                                      refine e_go i200_1100 ?_
                                                      exact H
                                                    · have d382 : ¬ (r372 = r378) := (of_decide_eq_false c380)
                                                      replace H := H.2 d382
                                                      refine e_cn (pc' := 1073) i200_1072 rfl ?_
                                                      refine e_rt i200_1073 rfl ?_
                                                      exact H
                                                  · replace H := H.2 c367
                                                    by_cases c383 : ((xs i.toNatClampNeg) &&& 31) = 24
                                                    · replace H := H.1 c383
                                                      refine e_tab (pc' := 1074) i200_33 (by rw [c383]; rfl) ?_
                                                      refine e_ld (pc' := 1075) i200_1074 rfl rfl ?_
                                                      refine e_ld (pc' := 1076) i200_1075 rfl rfl ?_
                                                      refine e_ld (pc' := 1077) i200_1076 rfl rfl ?_
                                                      refine e_cn (pc' := 1078) i200_1077 rfl ?_
                                                      refine e_ib (z := i + 1) (pc' := 1079) i200_1078 rfl rfl ?_
                                                      obtain ⟨g384, H⟩ := H
                                                      refine e_als (y := xs (i + 1).toNatClampNeg) (pc' := 1080) i200_1079 rfl g384 rfl ?_
                                                      obtain ⟨r386, s385, H⟩ := H
                                                      refine e_cI (w := .int r386) (As := [.ref 0, .int (xs (i + 1).toNatClampNeg)]) (rest := []) (pc' := 1083) i200_1080 rfl rfl rfl rfl (by show (Nat.beq (x_kd 108) 0 && x_is 0 _ (MC 108) 0) = true; rw [show x_kd 108 = 0 by decide +kernel, show MC 108 = 10 by decide +kernel, (x_isC (by decide) hw.1 sh0)]; rfl) s385 ?_
                                                      refine e_ld (pc' := 1084) i200_1083 rfl rfl ?_
                                                      refine e_ld (pc' := 1085) i200_1084 rfl rfl ?_
                                                      refine e_ld (pc' := 1086) i200_1085 rfl rfl ?_
                                                      refine e_cn (pc' := 1087) i200_1086 rfl ?_
                                                      refine e_ib (z := i + 1) (pc' := 1088) i200_1087 rfl rfl ?_
                                                      obtain ⟨g387, H⟩ := H
                                                      refine e_als (y := xs (i + 1).toNatClampNeg) (pc' := 1089) i200_1088 rfl g387 rfl ?_
                                                      obtain ⟨r389, s388, H⟩ := H
                                                      refine e_cI (w := .int r389) (As := [.ref 397, .int (xs (i + 1).toNatClampNeg)]) (rest := [.int r386]) (pc' := 1092) i200_1089 rfl rfl rfl rfl (by show (Nat.beq (x_kd 194) 0 && x_is 397 _ (MC 194) 0) = true; rw [show x_kd 194 = 0 by decide +kernel, show MC 194 = 11 by decide +kernel, (x_isC (by decide) hw.1 sh397)]; rfl) s388 ?_
                                                      refine e_ic (pc' := 1095) i200_1092 rfl (fun c390 => ?_) (fun c390 => ?_)
                                                      · have d391 : r386 = r389 := (of_decide_eq_true c390)
                                                        replace H := H.1 d391
                                                        refine e_inc (z := i + 9) (ls' := [some (.retAddr 0), some (.ref 0), some (.ref 397), some (.int (i + 9))]) (pc' := 1100) i200_1097 rfl rfl rfl rfl ?_
                                                        refine e_go i200_1100 ?_
                                                        exact H
                                                      · have d392 : ¬ (r386 = r389) := (of_decide_eq_false c390)
                                                        replace H := H.2 d392
                                                        refine e_cn (pc' := 1096) i200_1095 rfl ?_
                                                        refine e_rt i200_1096 rfl ?_
                                                        exact H
                                                    · replace H := H.2 c383
                                                      refine e_tab (pc' := 1097) i200_33 (x_tgt_out (by decide) (fun k (hk : k < 25) => by rcases (show k = 0 ∨ k = 1 ∨ k = 2 ∨ k = 3 ∨ k = 4 ∨ k = 5 ∨ k = 6 ∨ k = 7 ∨ k = 8 ∨ k = 9 ∨ k = 10 ∨ k = 11 ∨ k = 12 ∨ k = 13 ∨ k = 14 ∨ k = 15 ∨ k = 16 ∨ k = 17 ∨ k = 18 ∨ k = 19 ∨ k = 20 ∨ k = 21 ∨ k = 22 ∨ k = 23 ∨ k = 24 by omega) with rfl | rfl | rfl | rfl | rfl | rfl | rfl | rfl | rfl | rfl | rfl | rfl | rfl | rfl | rfl | rfl | rfl | rfl | rfl | rfl | rfl | rfl | rfl | rfl | rfl <;> assumption)) ?_
                                                      refine e_inc (z := i + 9) (ls' := [some (.retAddr 0), some (.ref 0), some (.ref 397), some (.int (i + 9))]) (pc' := 1100) i200_1097 rfl rfl rfl rfl ?_
                                                      refine e_go i200_1100 ?_
                                                      exact H
