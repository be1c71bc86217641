def fL_law_s575 (K679 : Int32 → Option (Int32)) (c7 : Nat → Int32) (c8 : Nat → Int32) (c9 : Nat → Int32) (c10 : Int32) (z22 : Int32) (rec575 : Int32 → Int32 → Option (Int32)) (z30 : Int32) (z31 : Int32) : Option (Int32) :=
  k_if (20 ≤ z31)
  (
    K679 z30)
  (
    k_b1 (fX4_row c7 c8 c9 c10 z31 1) fun (z32 : Int32) =>
    k_j1
    (fun (z33 : Int32) =>
      k_j1
      (fun (z34 : Int32) =>
        k_let (z31 + 1) fun (z35 : Int32) =>
        rec575 z34 z35)
      (fun K671 =>
      k_if (z30 = 0)
      (
        K671 0)
      (
        k_if (z22 = ((-1)))
        (
          k_if (z33 = 0)
          (
            K671 1)
          (
            K671 0))
        (
          k_b1 (fX4_row c7 c8 c9 c10 z22 6) fun (z36 : Int32) =>
          k_if (z36 < z33)
          (
            K671 0)
          (
            k_if (z22 ≤ z31)
            (
              K671 1)
            (
              k_b1 (fX4_row c7 c8 c9 c10 z22 6) fun (z37 : Int32) =>
              k_if (z37 ≤ z33)
              (
                K671 0)
              (
                K671 1)))))))
    (fun K616 =>
    k_if (z32 = 4)
    (
      k_b1 (fX4_row c7 c8 c9 c10 z31 7) fun (z38 : Int32) =>
      k_if (z38 = 0)
      (
        k_b1 (fX4_row c7 c8 c9 c10 z31 6) fun (z39 : Int32) =>
        K616 z39)
      (
        K616 0))
    (
      K616 0)))
def fL_law_s40 (K525 : (Nat → Int32) → (Nat → Int32) → (Nat → Int32) → Int32 → Int32 → Int32 → (Nat → Int32) → (Nat → Int32) → (Nat → Int32) → Int32 → Int32 → Int32 → (Nat → SV) → Int32 → Int32 → Option (Int32)) (sL : Nat) (xs : Nat → Int32) (z6 : Int32) (rec40 : Int32 → (Nat → Int32) → (Nat → Int32) → (Nat → Int32) → Int32 → Int32 → Int32 → (Nat → Int32) → (Nat → Int32) → (Nat → Int32) → Int32 → Int32 → Int32 → (Nat → SV) → Int32 → Int32 → Option (Int32)) (z43 : Int32) (c44 : Nat → Int32) (c45 : Nat → Int32) (c46 : Nat → Int32) (c47 : Int32) (c48 : Int32) (c49 : Int32) (c50 : Nat → Int32) (c51 : Nat → Int32) (c52 : Nat → Int32) (c53 : Int32) (c54 : Int32) (c55 : Int32) (c56 : Nat → SV) (c57 : Int32) (c58 : Int32) : Option (Int32) :=
  k_if (26 ≤ z43)
  (
    K525 c44 c45 c46 c47 c48 c49 c50 c51 c52 c53 c54 c55 c56 c57 c58)
  (
    k_let (1 + z43) fun (z59 : Int32) =>
    k_b1 (fL_cell sL xs z59) fun (z60 : Int32) =>
    k_let (z60 >>> (4 &&& 31)) fun (z61 : Int32) =>
    k_b1 (fL_low z61 20) fun (z62 : Int32) =>
    k_b1 (fL_low z60 11) fun (z63 : Int32) =>
    k_j16
    (fun (z64 : Int32) (c65 : Nat → Int32) (c66 : Nat → Int32) (c67 : Nat → Int32) (c68 : Int32) (c69 : Int32) (c70 : Int32) (c71 : Nat → Int32) (c72 : Nat → Int32) (c73 : Nat → Int32) (c74 : Int32) (c75 : Int32) (c76 : Int32) (c77 : Nat → SV) (c78 : Int32) (c79 : Int32) =>
      k_if (z64 = 0)
      (
        some 0)
      (
        k_b1 (fL_addUp c65 c66 c67 c68 c69 c70 c79) fun (z80 : Int32) =>
        k_if (z80 = 0)
        (
          some 0)
        (
          k_b10 (fL_isSealed c65 c66 c67 c68 c69 c70 c77 c78 c79 z62 z61) fun (z81 : Int32) (c82 : Nat → Int32) (c83 : Nat → Int32) (c84 : Nat → Int32) (c85 : Int32) (c86 : Int32) (c87 : Int32) (c88 : Nat → SV) (c89 : Int32) (c90 : Int32) =>
          k_if (z81 = 0)
          (
            some 0)
          (
            k_let (z43 + 1) fun (z91 : Int32) =>
            rec40 z91 c82 c83 c84 c85 c86 c87 c71 c72 c73 c74 c75 c76 c88 c89 c90))))
    (fun K494 =>
    k_if (5 ≤ z63)
    (
      k_if (z63 = 5)
      (
        k_b1 (fL_low z61 3) fun (z159 : Int32) =>
        k_let (2 + z159) fun (z160 : Int32) =>
        k_j1
        (fun (z161 : Int32) =>
          k_b5 (fX4_set c44 c45 c46 c47 c48 c49 c56 c57 c58 1 z161) fun (z162 : Int32) (c163 : Nat → Int32) (c164 : Nat → SV) (c165 : Int32) (c166 : Int32) =>
          k_j5
          (fun (z167 : Int32) (c168 : Nat → Int32) (c169 : Nat → SV) (c170 : Int32) (c171 : Int32) =>
            K494 z167 c44 c45 c168 c47 c48 c49 c50 c51 c52 c53 c54 c55 c169 c170 c171)
          (fun K234 =>
          k_if (z162 < 1)
          (
            K234 0 c163 c164 c165 c166)
          (
            k_let (z61 >>> (2 &&& 31)) fun (z172 : Int32) =>
            k_b1 (fL_low z172 3) fun (z173 : Int32) =>
            k_let (1 + z173) fun (z174 : Int32) =>
            k_b5 (fX4_set c44 c45 c163 c47 c48 c49 c164 c165 c166 2 z174) fun (z175 : Int32) (c176 : Nat → Int32) (c177 : Nat → SV) (c178 : Int32) (c179 : Int32) =>
            k_if (z175 < 1)
            (
              K234 0 c176 c177 c178 c179)
            (
              k_let (z61 >>> (4 &&& 31)) fun (z180 : Int32) =>
              k_b1 (fL_low z180 2) fun (z181 : Int32) =>
              k_b5 (fX4_set c44 c45 c176 c47 c48 c49 c177 c178 c179 0 z181) fun (z182 : Int32) (c183 : Nat → Int32) (c184 : Nat → SV) (c185 : Int32) (c186 : Int32) =>
              k_if (z182 < 0)
              (
                K234 0 c183 c184 c185 c186)
              (
                k_let (z61 >>> (5 &&& 31)) fun (z187 : Int32) =>
                k_b1 (fL_low z187 2) fun (z188 : Int32) =>
                k_b5 (fX4_set c44 c45 c183 c47 c48 c49 c184 c185 c186 3 z188) fun (z189 : Int32) (c190 : Nat → Int32) (c191 : Nat → SV) (c192 : Int32) (c193 : Int32) =>
                k_if (z189 < 0)
                (
                  K234 0 c190 c191 c192 c193)
                (
                  K234 1 c190 c191 c192 c193))))))
        (fun K171 =>
        k_if (z160 = 4)
        (
          K171 3)
        (
          K171 z160)))
      (
        k_if (z63 = 6)
        (
          k_b1 (fX4_row c44 c45 c46 c47 z62 7) fun (z144 : Int32) =>
          k_j7
          (fun (z145 : Int32) (c146 : Nat → Int32) (c147 : Nat → Int32) (c148 : Int32) (c149 : Nat → SV) (c150 : Int32) (c151 : Int32) =>
            K494 z145 c146 c147 c46 c47 c148 c49 c50 c51 c52 c53 c54 c55 c149 c150 c151)
          (fun K272 =>
          k_if (z144 = 1)
          (
            K272 1 c44 c45 c48 c56 c57 c58)
          (
            k_b7 (fL_refresh c44 c45 c46 c47 c48 c49 c56 c57 c58 z62) fun (z152 : Int32) (c153 : Nat → Int32) (c154 : Nat → Int32) (c155 : Int32) (c156 : Nat → SV) (c157 : Int32) (c158 : Int32) =>
            k_if (z152 = 0)
            (
              K272 0 c153 c154 c155 c156 c157 c158)
            (
              K272 1 c153 c154 c155 c156 c157 c158))))
        (
          k_if (z63 = 7)
          (
            k_b1 (fL_low z61 9) fun (z130 : Int32) =>
            k_let (1 + z130) fun (z131 : Int32) =>
            k_b12 (fL_heat c44 c45 c46 c47 c48 c49 c50 c51 c52 c53 c54 c55 c56 c57 c58 z131) fun (z132 : Int32) (c133 : Nat → Int32) (c134 : Nat → Int32) (c135 : Nat → Int32) (c136 : Nat → Int32) (c137 : Nat → Int32) (c138 : Int32) (c139 : Int32) (c140 : Int32) (c141 : Nat → SV) (c142 : Int32) (c143 : Int32) =>
            K494 z132 c133 c134 c46 c47 c48 c49 c135 c136 c137 c138 c139 c140 c141 c142 c143)
          (
            k_if (z63 = 8)
            (
              k_b1 (fX4_count c44 c45 c46 c47 c48 c49 c58 0) fun (z118 : Int32) =>
              k_b1 (fL_low z61 5) fun (z119 : Int32) =>
              k_let (1 + z119) fun (z120 : Int32) =>
              k_b5 (fX4_pass c44 c45 c46 c47 c48 c49 c56 c57 c58 z120) fun (z121 : Int32) (c122 : Int32) (c123 : Nat → SV) (c124 : Int32) (c125 : Int32) =>
              k_let (z118 + 1) fun (z126 : Int32) =>
              k_b1 (fL_low z61 5) fun (z127 : Int32) =>
              k_let (z126 + z127) fun (z128 : Int32) =>
              k_j1
              (fun (z129 : Int32) =>
                K494 z129 c44 c45 c46 c122 c48 c49 c50 c51 c52 c53 c54 c55 c123 c124 c125)
              (fun K347 =>
              k_if (z121 = z128)
              (
                K347 1)
              (
                K347 0)))
            (
              k_if (z63 = 9)
              (
                k_b1 (fL_low z61 z6) fun (z106 : Int32) =>
                k_b1 (fX4_key c44 c45 c46 c47 z106 2) fun (z107 : Int32) =>
                k_b1 (fX4_count c44 c45 c46 c47 c48 c49 c58 6) fun (z108 : Int32) =>
                k_b7 (fX4_drop c44 c45 c46 c47 c48 c49 c56 c57 c58 z106) fun (z109 : Int32) (c110 : Nat → Int32) (c111 : Nat → Int32) (c112 : Int32) (c113 : Nat → SV) (c114 : Int32) (c115 : Int32) =>
                k_j1
                (fun (z116 : Int32) =>
                  K494 z116 c110 c111 c46 c47 c112 c49 c50 c51 c52 c53 c54 c55 c113 c114 c115)
                (fun K427 =>
                k_if (z107 < z109)
                (
                  K427 0)
                (
                  k_if (0 < z108)
                  (
                    K427 1)
                  (
                    k_if (z109 = z107)
                    (
                      k_b1 (fX4_key c110 c111 c46 c47 z106 0) fun (z117 : Int32) =>
                      k_if (z117 = ((-1)))
                      (
                        K427 1)
                      (
                        K427 0))
                    (
                      K427 0)))))
              (
                k_let (z61 >>> (5 &&& 31)) fun (z92 : Int32) =>
                k_b1 (fL_low z92 4) fun (z93 : Int32) =>
                k_if (z93 = 0)
                (
                  k_b1 (fX4_row c44 c45 c46 c47 z62 7) fun (z94 : Int32) =>
                  k_if (z94 = 0)
                  (
                    k_b1 (fX4_count c44 c45 c46 c47 c48 c49 c58 6) fun (z95 : Int32) =>
                    k_b7 (fX4_lock c44 c45 c46 c47 c48 c49 c56 c57 c58 z62) fun (z96 : Int32) (c97 : Nat → Int32) (c98 : Nat → Int32) (c99 : Int32) (c100 : Nat → SV) (c101 : Int32) (c102 : Int32) =>
                    k_let (z95 + 1) fun (z103 : Int32) =>
                    k_j1
                    (fun (z104 : Int32) =>
                      K494 z104 c97 c98 c46 c47 c99 c49 c50 c51 c52 c53 c54 c55 c100 c101 c102)
                    (fun K492 =>
                    k_if (z96 = z103)
                    (
                      k_b1 (fX4_row c97 c98 c46 c47 z62 7) fun (z105 : Int32) =>
                      k_if (z105 = 1)
                      (
                        K492 1)
                      (
                        K492 0))
                    (
                      K492 0)))
                  (
                    K494 1 c44 c45 c46 c47 c48 c49 c50 c51 c52 c53 c54 c55 c56 c57 c58))
                (
                  K494 1 c44 c45 c46 c47 c48 c49 c50 c51 c52 c53 c54 c55 c56 c57 c58)))))))
    (
      k_b1 (fX4_count c44 c45 c46 c47 c48 c49 c58 10) fun (z194 : Int32) =>
      k_j14
      (fun (z195 : Int32) (c196 : Nat → Int32) (c197 : Nat → Int32) (c198 : Int32) (c199 : Int32) (c200 : Nat → Int32) (c201 : Nat → Int32) (c202 : Nat → Int32) (c203 : Int32) (c204 : Int32) (c205 : Int32) (c206 : Nat → SV) (c207 : Int32) (c208 : Int32) =>
        K494 z195 c196 c197 c46 c47 c198 c199 c200 c201 c202 c203 c204 c205 c206 c207 c208)
      (fun K136 =>
      k_if (z194 = ((-1)))
      (
        k_b7 (fX4_ifPut c44 c45 c46 c47 c48 c49 c50 c51 c52 c53 c54 c55 1 1 0) fun (z226 : Int32) (c227 : Nat → Int32) (c228 : Nat → Int32) (c229 : Nat → Int32) (c230 : Int32) (c231 : Int32) (c232 : Int32) =>
        k_if (z226 = ((-1)))
        (
          K136 1 c44 c45 c48 c49 c227 c228 c229 c230 c231 c232 c56 c57 c58)
        (
          K136 0 c44 c45 c48 c49 c227 c228 c229 c230 c231 c232 c56 c57 c58))
      (
        k_b1 (fL_low z61 z6) fun (z209 : Int32) =>
        k_let (z61 >>> (3 &&& 31)) fun (z210 : Int32) =>
        k_b1 (fL_low z210 64) fun (z211 : Int32) =>
        k_b14 (fL_put c44 c45 c46 c47 c48 c49 c50 c51 c52 c53 c54 c55 c56 c57 c58 z209 z211) fun (z212 : Int32) (c213 : Nat → Int32) (c214 : Nat → Int32) (c215 : Int32) (c216 : Int32) (c217 : Nat → Int32) (c218 : Nat → Int32) (c219 : Nat → Int32) (c220 : Int32) (c221 : Int32) (c222 : Int32) (c223 : Nat → SV) (c224 : Int32) (c225 : Int32) =>
        K136 z212 c213 c214 c215 c216 c217 c218 c219 c220 c221 c222 c223 c224 c225)))))
def fL_law (sL : Nat) (xs : Nat → Int32) (n_ones : Nat → Int32) (n_twos : Nat → Int32) (n_settings : Nat → Int32) (n_tick : Int32) (n_energy : Int32) (n_valuesPut : Int32) (t_ones : Nat → Int32) (t_twos : Nat → Int32) (t_settings : Nat → Int32) (t_tick : Int32) (t_energy : Int32) (t_valuesPut : Int32) (s_ring : Nat → SV) (s_oldest : Int32) (s_count : Int32) : Option Int32 :=
  k_b1 (fX4_sureShare n_ones n_twos) fun (z1 : UInt64) =>
  k_let (Op.cmpValue (FP.dcmp z1 FP.dconst1) .l) fun (z2 : Int32) =>
  k_if (z2 = 0)
  (
    k_b1 (fL_addUp n_ones n_twos n_settings n_tick n_energy n_valuesPut s_count) fun (z3 : Int32) =>
    k_if (z3 = 0)
    (
      some 0)
    (
      k_b1 (fL_cell sL xs (0 : Int32)) fun (z4 : Int32) =>
      k_b1 (fL_low z4 5) fun (z5 : Int32) =>
      k_let (1 + z5) fun (z6 : Int32) =>
      k_j15
      (fun (c7 : Nat → Int32) (c8 : Nat → Int32) (c9 : Nat → Int32) (c10 : Int32) (c11 : Int32) (c12 : Int32) (c13 : Nat → Int32) (c14 : Nat → Int32) (c15 : Nat → Int32) (c16 : Int32) (c17 : Int32) (c18 : Int32) (c19 : Nat → SV) (c20 : Int32) (c21 : Int32) =>
        k_b1 (fX4_worst c7 c8 c9 c10) fun (z22 : Int32) =>
        k_j1
        (fun (z23 : Int32) =>
          k_j1
          (fun (z24 : Int32) =>
            k_if (z24 = 0)
            (
              some 0)
            (
              k_b1 (fX4_setting c9 0) fun (z25 : Int32) =>
              k_j1
              (fun (z26 : Int32) =>
                k_b1 (fX4_ifRead c7 c8 c9 c10 0 z26) fun (z27 : Int32) =>
                k_if (z27 = 0)
                (
                  k_b1 (fX4_ifRead c7 c8 c9 c10 3 0) fun (z28 : Int32) =>
                  k_b1 (fX4_ifRead c7 c8 c9 c10 0 0) fun (z29 : Int32) =>
                  k_if (z28 = z29)
                  (
                    some 1)
                  (
                    some 0))
                (
                  some 0))
              (fun K700 =>
              k_if (z25 = 1)
              (
                K700 1)
              (
                K700 0))))
          (fun K679 =>
          k_l2 (fL_law_s575 K679 c7 c8 c9 c10 z22) 5000 z23 0))
        (fun K570 =>
        k_if (z22 = ((-1)))
        (
          K570 1)
        (
          k_b1 (fX4_row c7 c8 c9 c10 z22 1) fun (z40 : Int32) =>
          k_if (z40 = 4)
          (
            k_b1 (fX4_row c7 c8 c9 c10 z22 7) fun (z41 : Int32) =>
            k_if (z41 = 0)
            (
              k_b1 (fX4_row c7 c8 c9 c10 z22 6) fun (z42 : Int32) =>
              k_if (z42 ≤ 0)
              (
                K570 0)
              (
                K570 1))
            (
              K570 0))
          (
            K570 0))))
      (fun K525 =>
      k_l16 (fL_law_s40 K525 sL xs z6) 5000 0 n_ones n_twos n_settings n_tick n_energy n_valuesPut t_ones t_twos t_settings t_tick t_energy t_valuesPut s_ring s_oldest s_count)))
  (
    some 0)
set_option maxRecDepth 100000 in
set_option maxHeartbeats 8000000 in
theorem law_body {p : Program} {l : Launch} {e : Env} {s : State} {m : MethodId} {below : List Frame} {meth : Method} {c : Code} {Q : State → Prop} {b sL : Nat} {xs : Nat → Int32} {A : Nat → Prop} (dC : Nat → ClassId) (dI : Nat → Nat → Nat) (cyI cyC cyO : ClassId) (ad : Nat → Nat) (ob : Nat) (n0 : Nat) (n1 : Nat) (n2 : Nat) (n3 : Nat) (t0 : Nat) (t1 : Nat) (t2 : Nat) (t3 : Nat) (s0 : Nat) (aR : Nat) (ro : Nat → Nat) (r1 : Nat → Nat) (r2 : Nat → Nat) (r3 : Nat → Nat) (x0 : Nat) (x1 : Nat) (x2 : Nat) (x3 : Nat) (x4 : Nat) (n_ones : Nat → Int32) (n_twos : Nat → Int32) (n_settings : Nat → Int32) (n_tick : Int32) (n_energy : Int32) (n_valuesPut : Int32) (t_ones : Nat → Int32) (t_twos : Nat → Int32) (t_settings : Nat → Int32) (t_tick : Int32) (t_energy : Int32) (t_valuesPut : Int32) (s_ring : Nat → SV) (s_oldest : Int32) (s_count : Int32) (x_signs : Nat → Int32) (x_length : Int32) (x_position : Int32) (x_complete : Int32) (x_orders : Int32) (x_kinds : Nat → Int32) (x_numbers : Nat → Int32) (x_values : Nat → Int32) (hC : CallFix p m c cL_law 13 s #[.ref b] wA RL) (hX : va_X b sL xs s s.heap) (hbl : b < s.heap.size) (hbA : ¬ A b) (hK : va_K (dC, dI) vwCl (tyS cyI cyC cyO) s) (hE : k_E ad A s s.heap) (hRet : ∀ (pc : Nat) (H : Heap) (locs : List Loc) (ls : Array Slot), decode cL_law pc = .ok (.ireturn, 1) → va_S A s.heap H locs → W p l e room_1 s m #[Value.ref b] below meth c H locs 50 3400 Q (F0 m pc ls [.int 1])) (H : Heap) (locs : List Loc) (ls : Array Slot) (h : fL_law sL xs n_ones n_twos n_settings n_tick n_energy n_valuesPut t_ones t_twos t_settings t_tick t_energy t_valuesPut s_ring s_oldest s_count = some 1) (hP : va_P (dC, dI) vwCl (wAll cyI cyC cyO ob n0 n1 n2 n3 t0 t1 t2 t3 s0 aR ro r1 r2 r3 x0 x1 x2 x3 x4 n_ones n_twos n_settings n_tick n_energy n_valuesPut t_ones t_twos t_settings t_tick t_energy t_valuesPut s_ring s_oldest s_count x_signs x_length x_position x_complete x_orders x_kinds x_numbers x_values) H) (hD : va_D A (wAll cyI cyC cyO ob n0 n1 n2 n3 t0 t1 t2 t3 s0 aR ro r1 r2 r3 x0 x1 x2 x3 x4 n_ones n_twos n_settings n_tick n_energy n_valuesPut t_ones t_twos t_settings t_tick t_energy t_valuesPut s_ring s_oldest s_count x_signs x_length x_position x_complete x_orders x_kinds x_numbers x_values)) (hS : va_S A s.heap H locs) (hl : lv_has ls 13 [(0, .ref b), (1, .ref ob)]) : W p l e room_1 s m #[Value.ref b] below meth c H locs 50 3400 Q (F0 m 8 ls []) := by
  obtain ⟨hx, hb, hml, hown, hts⟩ := id hC
  unfold fL_law at h
  refine lv_aload_n hx hb dL_law_8 rfl (lv_at hl 1 rfl) ?_
  obtain ⟨z1, hc9, h⟩ := k_b1_e h
  refine g_callRD_V (As := []) (rest := []) hC (mX4_sureShare l dC dI cyI cyC cyO ob n0 n1 n2 n3 t0 t1 t2 t3 s0 aR ro r1 r2 r3 x0 x1 x2 x3 x4 n_ones n_twos n_settings n_tick n_energy n_valuesPut t_ones t_twos t_settings t_tick t_energy t_valuesPut s_ring s_oldest s_count x_signs x_length x_position x_complete x_orders x_kinds x_numbers x_values hc9) q377 q378 q379 q8 q380 0 hdX4_sureShare ⟨Nat.le_of_ble_eq_true rfl, Nat.le_of_ble_eq_true rfl⟩ ⟨Nat.le_of_ble_eq_true rfl, Nat.le_of_ble_eq_true rfl⟩ rfl rfl hl.1 (Nat.le_of_ble_eq_true rfl) hP hK (va_recv hK hP (ci := 3) (q0 := 0) rfl rfl) hS dL_law_9 (fun H locs hk hS => ?_)
  have hP := k_kept hP hk
  refine lv_dconst1 hx hb dL_law_12 ?_
  refine g_dcmp hx hb dL_law_13 h (fun z2 h => ?_)
  refine g_if_ne (tgt := 24) hx hb dL_law_14 (by decide) h (fun h => ?_) (fun h => ?_)
  · refine lv_iconst (v := 0) hx hb dL_law_24 (by decide) ?_
    exact (k_01 h).elim
  · refine lv_aload_n hx hb dL_law_17 rfl (lv_at hl 1 rfl) ?_
    obtain ⟨z3, hc18, h⟩ := k_b1_e h
    refine g_callRI_S (As := [.ref ob]) (rest := []) hC (mL_addUp l dC dI cyI cyC cyO ob n0 n1 n2 n3 t0 t1 t2 t3 s0 aR ro r1 r2 r3 x0 x1 x2 x3 x4 n_ones n_twos n_settings n_tick n_energy n_valuesPut t_ones t_twos t_settings t_tick t_energy t_valuesPut s_ring s_oldest s_count x_signs x_length x_position x_complete x_orders x_kinds x_numbers x_values hc18) q455 q456 q7 q457 1 hdL_addUp ⟨Nat.le_of_ble_eq_true rfl, Nat.le_of_ble_eq_true rfl⟩ ⟨Nat.le_of_ble_eq_true rfl, Nat.le_of_ble_eq_true rfl⟩ rfl rfl hl.1 (Nat.le_of_ble_eq_true rfl) hP hK hS dL_law_18 (fun H locs hk hS => ?_)
    have hP := k_kept hP hk
    refine g_if_ne (tgt := 26) hx hb dL_law_21 (by decide) h (fun h => ?_) (fun h => ?_)
    · refine lv_iconst (v := 1) hx hb dL_law_26 (by decide) ?_
      refine lv_aload_n hx hb dL_law_27 rfl (lv_at hl 0 rfl) ?_
      refine lv_iconst (v := 0) hx hb dL_law_28 (by decide) ?_
      obtain ⟨z4, hc29, h⟩ := k_b1_e h
      refine g_callX_S (As := [.ref b, .int 0]) (rest := [.int 1]) hC (mL_cell l b sL xs (0 : Int32) hc29) q382 q383 q7 q384 2 hdL_cell ⟨Nat.le_of_ble_eq_true rfl, Nat.le_of_ble_eq_true rfl⟩ ⟨Nat.le_of_ble_eq_true rfl, Nat.le_of_ble_eq_true rfl⟩ rfl rfl hl.1 (Nat.le_of_ble_eq_true rfl) hX hbl hbA hS dL_law_29 (fun H locs hk hS => ?_)
      have hP := k_kept hP hk
      refine lv_iconst (v := 5) hx hb dL_law_32 (by decide) ?_
      obtain ⟨z5, hc33, h⟩ := k_b1_e h
      refine g_callRI_S (As := [.int z4, .int 5]) (rest := [.int 1]) hC (mL_low l dC dI cyI cyC cyO z4 5 hc33) q387 q388 q7 q389 2 hdL_low ⟨Nat.le_of_ble_eq_true rfl, Nat.le_of_ble_eq_true rfl⟩ ⟨Nat.le_of_ble_eq_true rfl, Nat.le_of_ble_eq_true rfl⟩ rfl rfl hl.1 (Nat.le_of_ble_eq_true rfl) va_P_nil hK hS dL_law_33 (fun H locs hk hS => ?_)
      have hP := k_kept hP hk
      refine g_iadd hx hb dL_law_36 h (fun z6 h => ?_)
      refine lv_istore_n (lv' := [(2, .int z6), (0, .ref b), (1, .ref ob)]) hx hb dL_law_37 rfl hl (by decide) rfl (fun ls hl => ?_)
      refine lv_iconst (v := 0) hx hb dL_law_38 (by decide) ?_
      refine lv_istore_n (lv' := [(3, .int 0), (2, .int z6), (0, .ref b), (1, .ref ob)]) hx hb dL_law_39 rfl hl (by decide) rfl (fun ls hl => ?_)
      obtain ⟨K525, hK525, h⟩ := k_j15_e h
      have J525 : ∀ (c7 : Nat → Int32) (c8 : Nat → Int32) (c9 : Nat → Int32) (c10 : Int32) (c11 : Int32) (c12 : Int32) (c13 : Nat → Int32) (c14 : Nat → Int32) (c15 : Nat → Int32) (c16 : Int32) (c17 : Int32) (c18 : Int32) (c19 : Nat → SV) (c20 : Int32) (c21 : Int32) (H : Heap) (locs : List Loc) (ls : Array Slot), K525 c7 c8 c9 c10 c11 c12 c13 c14 c15 c16 c17 c18 c19 c20 c21 = some 1 → va_P (dC, dI) vwCl (wAll cyI cyC cyO ob n0 n1 n2 n3 t0 t1 t2 t3 s0 aR ro r1 r2 r3 x0 x1 x2 x3 x4 c7 c8 c9 c10 c11 c12 c13 c14 c15 c16 c17 c18 c19 c20 c21 x_signs x_length x_position x_complete x_orders x_kinds x_numbers x_values) H → va_S A s.heap H locs → lv_has ls 13 [(1, .ref ob)] → W p l e room_1 s m #[Value.ref b] below meth c H locs 50 3400 Q (F0 m 525 ls []) := by
        intro c7 c8 c9 c10 c11 c12 c13 c14 c15 c16 c17 c18 c19 c20 c21 H locs ls h hP hS hl
        have hD : va_D A (wAll cyI cyC cyO ob n0 n1 n2 n3 t0 t1 t2 t3 s0 aR ro r1 r2 r3 x0 x1 x2 x3 x4 c7 c8 c9 c10 c11 c12 c13 c14 c15 c16 c17 c18 c19 c20 c21 x_signs x_length x_position x_complete x_orders x_kinds x_numbers x_values) := k_Dm hD rfl
        have h := k_a15 hK525 h
        refine lv_aload_n hx hb dL_law_525 rfl (lv_at hl 0 rfl) ?_
        obtain ⟨z22, hc526, h⟩ := k_b1_e h
        refine g_callRI_V (As := []) (rest := []) hC (mX4_worst l dC dI cyI cyC cyO ob n0 n1 n2 n3 t0 t1 t2 t3 s0 aR ro r1 r2 r3 x0 x1 x2 x3 x4 c7 c8 c9 c10 c11 c12 c13 c14 c15 c16 c17 c18 c19 c20 c21 x_signs x_length x_position x_complete x_orders x_kinds x_numbers x_values hc526) q373 q374 q375 q8 q376 0 hdX4_worst ⟨Nat.le_of_ble_eq_true rfl, Nat.le_of_ble_eq_true rfl⟩ ⟨Nat.le_of_ble_eq_true rfl, Nat.le_of_ble_eq_true rfl⟩ rfl rfl hl.1 (Nat.le_of_ble_eq_true rfl) hP hK (va_recv hK hP (ci := 3) (q0 := 0) rfl rfl) hS dL_law_526 (fun H locs hk hS => ?_)
        have hP := k_kept hP hk
        refine lv_istore_n (lv' := [(3, .int z22), (1, .ref ob)]) hx hb dL_law_529 rfl hl (by decide) rfl (fun ls hl => ?_)
        refine lv_iload_n hx hb dL_law_530 rfl (lv_at hl 0 rfl) ?_
        refine lv_iconst (v := (-1)) hx hb dL_law_531 (by decide) ?_
        obtain ⟨K570, hK570, h⟩ := k_j1_e h
        have J570 : ∀ (z23 : Int32) (H : Heap) (locs : List Loc) (ls : Array Slot), K570 z23 = some 1 → va_P (dC, dI) vwCl (wAll cyI cyC cyO ob n0 n1 n2 n3 t0 t1 t2 t3 s0 aR ro r1 r2 r3 x0 x1 x2 x3 x4 c7 c8 c9 c10 c11 c12 c13 c14 c15 c16 c17 c18 c19 c20 c21 x_signs x_length x_position x_complete x_orders x_kinds x_numbers x_values) H → va_S A s.heap H locs → lv_has ls 13 [(1, .ref ob), (3, .int z22)] → W p l e room_1 s m #[Value.ref b] below meth c H locs 50 3400 Q (F0 m 570 ls [.int z23]) := by
          intro z23 H locs ls h hP hS hl
          have h := k_a1 hK570 h
          refine lv_istore (lv' := [(4, .int z23), (1, .ref ob), (3, .int z22)]) hx hb dL_law_570 hl (by decide) rfl (fun ls hl => ?_)
          refine lv_iconst (v := 0) hx hb dL_law_572 (by decide) ?_
          refine lv_istore (lv' := [(5, .int 0), (4, .int z23), (1, .ref ob), (3, .int z22)]) hx hb dL_law_573 hl (by decide) rfl (fun ls hl => ?_)
          obtain ⟨K679, hK679, h⟩ := k_j1_e h
          have J679 : ∀ (z24 : Int32) (H : Heap) (locs : List Loc) (ls : Array Slot), K679 z24 = some 1 → va_P (dC, dI) vwCl (wAll cyI cyC cyO ob n0 n1 n2 n3 t0 t1 t2 t3 s0 aR ro r1 r2 r3 x0 x1 x2 x3 x4 c7 c8 c9 c10 c11 c12 c13 c14 c15 c16 c17 c18 c19 c20 c21 x_signs x_length x_position x_complete x_orders x_kinds x_numbers x_values) H → va_S A s.heap H locs → lv_has ls 13 [(1, .ref ob), (4, .int z24)] → W p l e room_1 s m #[Value.ref b] below meth c H locs 50 3400 Q (F0 m 679 ls []) := by
            intro z24 H locs ls h hP hS hl
            have h := k_a1 hK679 h
            refine lv_iload hx hb dL_law_679 (lv_at hl 1 rfl) ?_
            refine g_if_eq (tgt := 725) hx hb dL_law_681 (by decide) h (fun h => ?_) (fun h => ?_)
            · refine lv_iconst (v := 0) hx hb dL_law_725 (by decide) ?_
              exact (k_01 h).elim
            · refine lv_aload_n hx hb dL_law_684 rfl (lv_at hl 0 rfl) ?_
              refine lv_iconst (v := 0) hx hb dL_law_685 (by decide) ?_
              refine lv_aload_n hx hb dL_law_686 rfl (lv_at hl 0 rfl) ?_
              refine lv_iconst (v := 0) hx hb dL_law_687 (by decide) ?_
              obtain ⟨z25, hc688, h⟩ := k_b1_e h
              refine g_callRI_V (As := [.int 0]) (rest := [.int 0, .ref ob]) hC (mX4_setting l dC dI cyI cyC cyO ob n0 n1 n2 n3 t0 t1 t2 t3 s0 aR ro r1 r2 r3 x0 x1 x2 x3 x4 c7 c8 c9 c10 c11 c12 c13 c14 c15 c16 c17 c18 c19 c20 c21 x_signs x_length x_position x_complete x_orders x_kinds x_numbers x_values 0 hc688) q327 q328 q329 q8 q330 1 hdX4_setting ⟨Nat.le_of_ble_eq_true rfl, Nat.le_of_ble_eq_true rfl⟩ ⟨Nat.le_of_ble_eq_true rfl, Nat.le_of_ble_eq_true rfl⟩ rfl rfl hl.1 (Nat.le_of_ble_eq_true rfl) hP hK (va_recv hK hP (ci := 3) (q0 := 0) rfl rfl) hS dL_law_688 (fun H locs hk hS => ?_)
              have hP := k_kept hP hk
              refine lv_iconst (v := 1) hx hb dL_law_691 (by decide) ?_
              obtain ⟨K700, hK700, h⟩ := k_j1_e h
              have J700 : ∀ (z26 : Int32) (H : Heap) (locs : List Loc) (ls : Array Slot), K700 z26 = some 1 → va_P (dC, dI) vwCl (wAll cyI cyC cyO ob n0 n1 n2 n3 t0 t1 t2 t3 s0 aR ro r1 r2 r3 x0 x1 x2 x3 x4 c7 c8 c9 c10 c11 c12 c13 c14 c15 c16 c17 c18 c19 c20 c21 x_signs x_length x_position x_complete x_orders x_kinds x_numbers x_values) H → va_S A s.heap H locs → lv_has ls 13 [(1, .ref ob)] → W p l e room_1 s m #[Value.ref b] below meth c H locs 50 3400 Q (F0 m 700 ls [.int z26, .int 0, .ref ob]) := by
                intro z26 H locs ls h hP hS hl
                have h := k_a1 hK700 h
                obtain ⟨z27, hc700, h⟩ := k_b1_e h
                refine g_callRI_V (As := [.int 0, .int z26]) (rest := []) hC (mX4_ifRead l dC dI cyI cyC cyO ob n0 n1 n2 n3 t0 t1 t2 t3 s0 aR ro r1 r2 r3 x0 x1 x2 x3 x4 c7 c8 c9 c10 c11 c12 c13 c14 c15 c16 c17 c18 c19 c20 c21 x_signs x_length x_position x_complete x_orders x_kinds x_numbers x_values 0 z26 hc700) q365 q366 q367 q8 q368 2 hdX4_ifRead ⟨Nat.le_of_ble_eq_true rfl, Nat.le_of_ble_eq_true rfl⟩ ⟨Nat.le_of_ble_eq_true rfl, Nat.le_of_ble_eq_true rfl⟩ rfl rfl hl.1 (Nat.le_of_ble_eq_true rfl) hP hK (va_recv hK hP (ci := 3) (q0 := 0) rfl rfl) hS dL_law_700 (fun H locs hk hS => ?_)
                have hP := k_kept hP hk
                refine g_if_ne (tgt := 725) hx hb dL_law_703 (by decide) h (fun h => ?_) (fun h => ?_)
                · refine lv_iconst (v := 0) hx hb dL_law_725 (by decide) ?_
                  exact (k_01 h).elim
                · refine lv_aload_n hx hb dL_law_706 rfl (lv_at hl 0 rfl) ?_
                  refine lv_iconst (v := 3) hx hb dL_law_707 (by decide) ?_
                  refine lv_iconst (v := 0) hx hb dL_law_708 (by decide) ?_
                  obtain ⟨z28, hc709, h⟩ := k_b1_e h
                  refine g_callRI_V (As := [.int 3, .int 0]) (rest := []) hC (mX4_ifRead l dC dI cyI cyC cyO ob n0 n1 n2 n3 t0 t1 t2 t3 s0 aR ro r1 r2 r3 x0 x1 x2 x3 x4 c7 c8 c9 c10 c11 c12 c13 c14 c15 c16 c17 c18 c19 c20 c21 x_signs x_length x_position x_complete x_orders x_kinds x_numbers x_values 3 0 hc709) q365 q366 q367 q8 q368 2 hdX4_ifRead ⟨Nat.le_of_ble_eq_true rfl, Nat.le_of_ble_eq_true rfl⟩ ⟨Nat.le_of_ble_eq_true rfl, Nat.le_of_ble_eq_true rfl⟩ rfl rfl hl.1 (Nat.le_of_ble_eq_true rfl) hP hK (va_recv hK hP (ci := 3) (q0 := 0) rfl rfl) hS dL_law_709 (fun H locs hk hS => ?_)
                  have hP := k_kept hP hk
                  refine lv_aload_n hx hb dL_law_712 rfl (lv_at hl 0 rfl) ?_
                  refine lv_iconst (v := 0) hx hb dL_law_713 (by decide) ?_
                  refine lv_iconst (v := 0) hx hb dL_law_714 (by decide) ?_
                  obtain ⟨z29, hc715, h⟩ := k_b1_e h
                  refine g_callRI_V (As := [.int 0, .int 0]) (rest := [.int z28]) hC (mX4_ifRead l dC dI cyI cyC cyO ob n0 n1 n2 n3 t0 t1 t2 t3 s0 aR ro r1 r2 r3 x0 x1 x2 x3 x4 c7 c8 c9 c10 c11 c12 c13 c14 c15 c16 c17 c18 c19 c20 c21 x_signs x_length x_position x_complete x_orders x_kinds x_numbers x_values 0 0 hc715) q365 q366 q367 q8 q368 2 hdX4_ifRead ⟨Nat.le_of_ble_eq_true rfl, Nat.le_of_ble_eq_true rfl⟩ ⟨Nat.le_of_ble_eq_true rfl, Nat.le_of_ble_eq_true rfl⟩ rfl rfl hl.1 (Nat.le_of_ble_eq_true rfl) hP hK (va_recv hK hP (ci := 3) (q0 := 0) rfl rfl) hS dL_law_715 (fun H locs hk hS => ?_)
                  have hP := k_kept hP hk
                  refine g_icmp_ne (tgt := 725) hx hb dL_law_718 (by decide) h (fun h => ?_) (fun h => ?_)
                  · refine lv_iconst (v := 0) hx hb dL_law_725 (by decide) ?_
                    exact (k_01 h).elim
                  · refine lv_iconst (v := 1) hx hb dL_law_721 (by decide) ?_
                    refine lv_goto (tgt := 726) hx hb dL_law_722 (by decide) ?_
                    rw [Option.some.inj h]
                    exact hRet 726 _ _ _ dL_law_726 hS
              refine g_icmp_ne (tgt := 699) hx hb dL_law_692 (by decide) h (fun h => ?_) (fun h => ?_)
              · refine lv_iconst (v := 0) hx hb dL_law_699 (by decide) ?_
                exact J700 0 _ _ _ h hP hS (lv_sub hl [0] rfl)
              · refine lv_iconst (v := 1) hx hb dL_law_695 (by decide) ?_
                refine lv_goto (tgt := 700) hx hb dL_law_696 (by decide) ?_
                exact J700 1 _ _ _ h hP hS (lv_sub hl [0] rfl)
          obtain ⟨S575, hS575⟩ : ∃ z, z = (fL_law_s575 K679 c7 c8 c9 c10 z22) := ⟨_, rfl⟩
          rw [← hS575] at h
          have L575 : ∀ (n : Nat) (z30 : Int32) (z31 : Int32) (H : Heap) (locs : List Loc) (ls : Array Slot), k_l2 S575 n z30 z31 = some 1 → va_P (dC, dI) vwCl (wAll cyI cyC cyO ob n0 n1 n2 n3 t0 t1 t2 t3 s0 aR ro r1 r2 r3 x0 x1 x2 x3 x4 c7 c8 c9 c10 c11 c12 c13 c14 c15 c16 c17 c18 c19 c20 c21 x_signs x_length x_position x_complete x_orders x_kinds x_numbers x_values) H → va_S A s.heap H locs → lv_has ls 13 [(1, .ref ob), (3, .int z22), (4, .int z30), (5, .int z31)] → W p l e room_1 s m #[Value.ref b] below meth c H locs 50 3400 Q (F0 m 575 ls []) := by
            intro n
            induction n with
            | zero =>
              intro z30 z31 H locs ls h
              exact (k_l2_0 h).elim
            | succ n ih575 =>
              intro z30 z31 H locs ls h hP hS hl
              have h := k_l2_s h
              have h := k_a3 hS575 h
              unfold fL_law_s575 at h
              refine lv_iload hx hb dL_law_575 (lv_at hl 3 rfl) ?_
              refine lv_bipush (v := 20) hx hb dL_law_577 (by decide) ?_
              refine g_icmp_ge (tgt := 679) hx hb dL_law_579 (by decide) h (fun h => ?_) (fun h => ?_)
              · exact J679 z30 _ _ _ h hP hS (lv_sub hl [0, 2] rfl)
              · refine lv_aload_n hx hb dL_law_582 rfl (lv_at hl 0 rfl) ?_
                refine lv_iload hx hb dL_law_583 (lv_at hl 3 rfl) ?_
                refine lv_iconst (v := 1) hx hb dL_law_585 (by decide) ?_
                obtain ⟨z32, hc586, h⟩ := k_b1_e h
                refine g_callRI_V (As := [.int z31, .int 1]) (rest := []) hC (mX4_row l dC dI cyI cyC cyO ob n0 n1 n2 n3 t0 t1 t2 t3 s0 aR ro r1 r2 r3 x0 x1 x2 x3 x4 c7 c8 c9 c10 c11 c12 c13 c14 c15 c16 c17 c18 c19 c20 c21 x_signs x_length x_position x_complete x_orders x_kinds x_numbers x_values z31 1 hc586) q231 q232 q233 q8 q234 2 hdX4_row ⟨Nat.le_of_ble_eq_true rfl, Nat.le_of_ble_eq_true rfl⟩ ⟨Nat.le_of_ble_eq_true rfl, Nat.le_of_ble_eq_true rfl⟩ rfl rfl hl.1 (Nat.le_of_ble_eq_true rfl) hP hK (va_recv hK hP (ci := 3) (q0 := 0) rfl rfl) hS dL_law_586 (fun H locs hk hS => ?_)
                have hP := k_kept hP hk
                refine lv_iconst (v := 4) hx hb dL_law_589 (by decide) ?_
                obtain ⟨K616, hK616, h⟩ := k_j1_e h
                have J616 : ∀ (z33 : Int32) (H : Heap) (locs : List Loc) (ls : Array Slot), K616 z33 = some 1 → va_P (dC, dI) vwCl (wAll cyI cyC cyO ob n0 n1 n2 n3 t0 t1 t2 t3 s0 aR ro r1 r2 r3 x0 x1 x2 x3 x4 c7 c8 c9 c10 c11 c12 c13 c14 c15 c16 c17 c18 c19 c20 c21 x_signs x_length x_position x_complete x_orders x_kinds x_numbers x_values) H → va_S A s.heap H locs → lv_has ls 13 [(1, .ref ob), (3, .int z22), (4, .int z30), (5, .int z31)] → W p l e room_1 s m #[Value.ref b] below meth c H locs 50 3400 Q (F0 m 616 ls [.int z33]) := by
                  intro z33 H locs ls h hP hS hl
                  have h := k_a1 hK616 h
                  refine lv_istore (lv' := [(6, .int z33), (1, .ref ob), (3, .int z22), (4, .int z30), (5, .int z31)]) hx hb dL_law_616 hl (by decide) rfl (fun ls hl => ?_)
                  refine lv_iload hx hb dL_law_618 (lv_at hl 3 rfl) ?_
                  obtain ⟨K671, hK671, h⟩ := k_j1_e h
                  have J671 : ∀ (z34 : Int32) (H : Heap) (locs : List Loc) (ls : Array Slot), K671 z34 = some 1 → va_P (dC, dI) vwCl (wAll cyI cyC cyO ob n0 n1 n2 n3 t0 t1 t2 t3 s0 aR ro r1 r2 r3 x0 x1 x2 x3 x4 c7 c8 c9 c10 c11 c12 c13 c14 c15 c16 c17 c18 c19 c20 c21 x_signs x_length x_position x_complete x_orders x_kinds x_numbers x_values) H → va_S A s.heap H locs → lv_has ls 13 [(1, .ref ob), (3, .int z22), (5, .int z31)] → W p l e room_1 s m #[Value.ref b] below meth c H locs 50 3400 Q (F0 m 671 ls [.int z34]) := by
                    intro z34 H locs ls h hP hS hl
                    have h := k_a1 hK671 h
                    refine lv_istore (lv' := [(4, .int z34), (1, .ref ob), (3, .int z22), (5, .int z31)]) hx hb dL_law_671 hl (by decide) rfl (fun ls hl => ?_)
                    refine g_iinc (dv := 1) hx hb dL_law_673 hl (j := 3) rfl (by decide) (by decide) h (fun z35 ls h hl => ?_)
                    have hl : lv_has ls 13 [(5, .int z35), (4, .int z34), (1, .ref ob), (3, .int z22)] := hl
                    refine lv_goto (tgt := 575) hx hb dL_law_676 (by decide) ?_
                    exact ih575 z34 z35 _ _ _ h hP hS (lv_sub hl [2, 3, 1, 0] rfl)
                  refine g_if_eq (tgt := 670) hx hb dL_law_620 (by decide) h (fun h => ?_) (fun h => ?_)
                  · refine lv_iconst (v := 0) hx hb dL_law_670 (by decide) ?_
                    exact J671 0 _ _ _ h hP hS (lv_sub hl [1, 2, 4] rfl)
                  · refine lv_iload_n hx hb dL_law_623 rfl (lv_at hl 2 rfl) ?_
                    refine lv_iconst (v := (-1)) hx hb dL_law_624 (by decide) ?_
                    refine g_icmp_ne (tgt := 636) hx hb dL_law_625 (by decide) h (fun h => ?_) (fun h => ?_)
                    · refine lv_iload hx hb dL_law_636 (lv_at hl 0 rfl) ?_
                      refine lv_aload_n hx hb dL_law_638 rfl (lv_at hl 1 rfl) ?_
                      refine lv_iload_n hx hb dL_law_639 rfl (lv_at hl 2 rfl) ?_
                      refine lv_bipush (v := 6) hx hb dL_law_640 (by decide) ?_
                      obtain ⟨z36, hc642, h⟩ := k_b1_e h
                      refine g_callRI_V (As := [.int z22, .int 6]) (rest := [.int z33]) hC (mX4_row l dC dI cyI cyC cyO ob n0 n1 n2 n3 t0 t1 t2 t3 s0 aR ro r1 r2 r3 x0 x1 x2 x3 x4 c7 c8 c9 c10 c11 c12 c13 c14 c15 c16 c17 c18 c19 c20 c21 x_signs x_length x_position x_complete x_orders x_kinds x_numbers x_values z22 6 hc642) q231 q232 q233 q8 q234 2 hdX4_row ⟨Nat.le_of_ble_eq_true rfl, Nat.le_of_ble_eq_true rfl⟩ ⟨Nat.le_of_ble_eq_true rfl, Nat.le_of_ble_eq_true rfl⟩ rfl rfl hl.1 (Nat.le_of_ble_eq_true rfl) hP hK (va_recv hK hP (ci := 3) (q0 := 0) rfl rfl) hS dL_law_642 (fun H locs hk hS => ?_)
                      have hP := k_kept hP hk
                      refine g_icmp_gt (tgt := 670) hx hb dL_law_645 (by decide) h (fun h => ?_) (fun h => ?_)
                      · refine lv_iconst (v := 0) hx hb dL_law_670 (by decide) ?_
                        exact J671 0 _ _ _ h hP hS (lv_sub hl [1, 2, 4] rfl)
                      · refine lv_iload hx hb dL_law_648 (lv_at hl 4 rfl) ?_
                        refine lv_iload_n hx hb dL_law_650 rfl (lv_at hl 2 rfl) ?_
                        refine g_icmp_ge (tgt := 666) hx hb dL_law_651 (by decide) h (fun h => ?_) (fun h => ?_)
                        · refine lv_iconst (v := 1) hx hb dL_law_666 (by decide) ?_
                          refine lv_goto (tgt := 671) hx hb dL_law_667 (by decide) ?_
                          exact J671 1 _ _ _ h hP hS (lv_sub hl [1, 2, 4] rfl)
                        · refine lv_iload hx hb dL_law_654 (lv_at hl 0 rfl) ?_
                          refine lv_aload_n hx hb dL_law_656 rfl (lv_at hl 1 rfl) ?_
                          refine lv_iload_n hx hb dL_law_657 rfl (lv_at hl 2 rfl) ?_
                          refine lv_bipush (v := 6) hx hb dL_law_658 (by decide) ?_
                          obtain ⟨z37, hc660, h⟩ := k_b1_e h
                          refine g_callRI_V (As := [.int z22, .int 6]) (rest := [.int z33]) hC (mX4_row l dC dI cyI cyC cyO ob n0 n1 n2 n3 t0 t1 t2 t3 s0 aR ro r1 r2 r3 x0 x1 x2 x3 x4 c7 c8 c9 c10 c11 c12 c13 c14 c15 c16 c17 c18 c19 c20 c21 x_signs x_length x_position x_complete x_orders x_kinds x_numbers x_values z22 6 hc660) q231 q232 q233 q8 q234 2 hdX4_row ⟨Nat.le_of_ble_eq_true rfl, Nat.le_of_ble_eq_true rfl⟩ ⟨Nat.le_of_ble_eq_true rfl, Nat.le_of_ble_eq_true rfl⟩ rfl rfl hl.1 (Nat.le_of_ble_eq_true rfl) hP hK (va_recv hK hP (ci := 3) (q0 := 0) rfl rfl) hS dL_law_660 (fun H locs hk hS => ?_)
                          have hP := k_kept hP hk
                          refine g_icmp_ge (tgt := 670) hx hb dL_law_663 (by decide) h (fun h => ?_) (fun h => ?_)
                          · refine lv_iconst (v := 0) hx hb dL_law_670 (by decide) ?_
                            exact J671 0 _ _ _ h hP hS (lv_sub hl [1, 2, 4] rfl)
                          · refine lv_iconst (v := 1) hx hb dL_law_666 (by decide) ?_
                            refine lv_goto (tgt := 671) hx hb dL_law_667 (by decide) ?_
                            exact J671 1 _ _ _ h hP hS (lv_sub hl [1, 2, 4] rfl)
                    · refine lv_iload hx hb dL_law_628 (lv_at hl 0 rfl) ?_
                      refine g_if_ne (tgt := 670) hx hb dL_law_630 (by decide) h (fun h => ?_) (fun h => ?_)
                      · refine lv_iconst (v := 0) hx hb dL_law_670 (by decide) ?_
                        exact J671 0 _ _ _ h hP hS (lv_sub hl [1, 2, 4] rfl)
                      · refine lv_goto (tgt := 666) hx hb dL_law_633 (by decide) ?_
                        refine lv_iconst (v := 1) hx hb dL_law_666 (by decide) ?_
                        refine lv_goto (tgt := 671) hx hb dL_law_667 (by decide) ?_
                        exact J671 1 _ _ _ h hP hS (lv_sub hl [1, 2, 4] rfl)
                refine g_icmp_ne (tgt := 615) hx hb dL_law_590 (by decide) h (fun h => ?_) (fun h => ?_)
                · refine lv_iconst (v := 0) hx hb dL_law_615 (by decide) ?_
                  exact J616 0 _ _ _ h hP hS (lv_sub hl [0, 1, 2, 3] rfl)
                · refine lv_aload_n hx hb dL_law_593 rfl (lv_at hl 0 rfl) ?_
                  refine lv_iload hx hb dL_law_594 (lv_at hl 3 rfl) ?_
                  refine lv_bipush (v := 7) hx hb dL_law_596 (by decide) ?_
                  obtain ⟨z38, hc598, h⟩ := k_b1_e h
                  refine g_callRI_V (As := [.int z31, .int 7]) (rest := []) hC (mX4_row l dC dI cyI cyC cyO ob n0 n1 n2 n3 t0 t1 t2 t3 s0 aR ro r1 r2 r3 x0 x1 x2 x3 x4 c7 c8 c9 c10 c11 c12 c13 c14 c15 c16 c17 c18 c19 c20 c21 x_signs x_length x_position x_complete x_orders x_kinds x_numbers x_values z31 7 hc598) q231 q232 q233 q8 q234 2 hdX4_row ⟨Nat.le_of_ble_eq_true rfl, Nat.le_of_ble_eq_true rfl⟩ ⟨Nat.le_of_ble_eq_true rfl, Nat.le_of_ble_eq_true rfl⟩ rfl rfl hl.1 (Nat.le_of_ble_eq_true rfl) hP hK (va_recv hK hP (ci := 3) (q0 := 0) rfl rfl) hS dL_law_598 (fun H locs hk hS => ?_)
                  have hP := k_kept hP hk
                  refine g_if_ne (tgt := 615) hx hb dL_law_601 (by decide) h (fun h => ?_) (fun h => ?_)
                  · refine lv_iconst (v := 0) hx hb dL_law_615 (by decide) ?_
                    exact J616 0 _ _ _ h hP hS (lv_sub hl [0, 1, 2, 3] rfl)
                  · refine lv_aload_n hx hb dL_law_604 rfl (lv_at hl 0 rfl) ?_
                    refine lv_iload hx hb dL_law_605 (lv_at hl 3 rfl) ?_
                    refine lv_bipush (v := 6) hx hb dL_law_607 (by decide) ?_
                    obtain ⟨z39, hc609, h⟩ := k_b1_e h
                    refine g_callRI_V (As := [.int z31, .int 6]) (rest := []) hC (mX4_row l dC dI cyI cyC cyO ob n0 n1 n2 n3 t0 t1 t2 t3 s0 aR ro r1 r2 r3 x0 x1 x2 x3 x4 c7 c8 c9 c10 c11 c12 c13 c14 c15 c16 c17 c18 c19 c20 c21 x_signs x_length x_position x_complete x_orders x_kinds x_numbers x_values z31 6 hc609) q231 q232 q233 q8 q234 2 hdX4_row ⟨Nat.le_of_ble_eq_true rfl, Nat.le_of_ble_eq_true rfl⟩ ⟨Nat.le_of_ble_eq_true rfl, Nat.le_of_ble_eq_true rfl⟩ rfl rfl hl.1 (Nat.le_of_ble_eq_true rfl) hP hK (va_recv hK hP (ci := 3) (q0 := 0) rfl rfl) hS dL_law_609 (fun H locs hk hS => ?_)
                    have hP := k_kept hP hk
                    refine lv_goto (tgt := 616) hx hb dL_law_612 (by decide) ?_
                    exact J616 z39 _ _ _ h hP hS (lv_sub hl [0, 1, 2, 3] rfl)
          exact L575 5000 z23 0 _ _ _ h hP hS (lv_sub hl [2, 3, 1, 0] rfl)
        refine g_icmp_eq (tgt := 565) hx hb dL_law_532 (by decide) h (fun h => ?_) (fun h => ?_)
        · refine lv_iconst (v := 1) hx hb dL_law_565 (by decide) ?_
          refine lv_goto (tgt := 570) hx hb dL_law_566 (by decide) ?_
          exact J570 1 _ _ _ h hP hS (lv_sub hl [1, 0] rfl)
        · refine lv_aload_n hx hb dL_law_535 rfl (lv_at hl 1 rfl) ?_
          refine lv_iload_n hx hb dL_law_536 rfl (lv_at hl 0 rfl) ?_
          refine lv_iconst (v := 1) hx hb dL_law_537 (by decide) ?_
          obtain ⟨z40, hc538, h⟩ := k_b1_e h
          refine g_callRI_V (As := [.int z22, .int 1]) (rest := []) hC (mX4_row l dC dI cyI cyC cyO ob n0 n1 n2 n3 t0 t1 t2 t3 s0 aR ro r1 r2 r3 x0 x1 x2 x3 x4 c7 c8 c9 c10 c11 c12 c13 c14 c15 c16 c17 c18 c19 c20 c21 x_signs x_length x_position x_complete x_orders x_kinds x_numbers x_values z22 1 hc538) q231 q232 q233 q8 q234 2 hdX4_row ⟨Nat.le_of_ble_eq_true rfl, Nat.le_of_ble_eq_true rfl⟩ ⟨Nat.le_of_ble_eq_true rfl, Nat.le_of_ble_eq_true rfl⟩ rfl rfl hl.1 (Nat.le_of_ble_eq_true rfl) hP hK (va_recv hK hP (ci := 3) (q0 := 0) rfl rfl) hS dL_law_538 (fun H locs hk hS => ?_)
          have hP := k_kept hP hk
          refine lv_iconst (v := 4) hx hb dL_law_541 (by decide) ?_
          refine g_icmp_ne (tgt := 569) hx hb dL_law_542 (by decide) h (fun h => ?_) (fun h => ?_)
          · refine lv_iconst (v := 0) hx hb dL_law_569 (by decide) ?_
            exact J570 0 _ _ _ h hP hS (lv_sub hl [1, 0] rfl)
          · refine lv_aload_n hx hb dL_law_545 rfl (lv_at hl 1 rfl) ?_
            refine lv_iload_n hx hb dL_law_546 rfl (lv_at hl 0 rfl) ?_
            refine lv_bipush (v := 7) hx hb dL_law_547 (by decide) ?_
            obtain ⟨z41, hc549, h⟩ := k_b1_e h
            refine g_callRI_V (As := [.int z22, .int 7]) (rest := []) hC (mX4_row l dC dI cyI cyC cyO ob n0 n1 n2 n3 t0 t1 t2 t3 s0 aR ro r1 r2 r3 x0 x1 x2 x3 x4 c7 c8 c9 c10 c11 c12 c13 c14 c15 c16 c17 c18 c19 c20 c21 x_signs x_length x_position x_complete x_orders x_kinds x_numbers x_values z22 7 hc549) q231 q232 q233 q8 q234 2 hdX4_row ⟨Nat.le_of_ble_eq_true rfl, Nat.le_of_ble_eq_true rfl⟩ ⟨Nat.le_of_ble_eq_true rfl, Nat.le_of_ble_eq_true rfl⟩ rfl rfl hl.1 (Nat.le_of_ble_eq_true rfl) hP hK (va_recv hK hP (ci := 3) (q0 := 0) rfl rfl) hS dL_law_549 (fun H locs hk hS => ?_)
            have hP := k_kept hP hk
            refine g_if_ne (tgt := 569) hx hb dL_law_552 (by decide) h (fun h => ?_) (fun h => ?_)
            · refine lv_iconst (v := 0) hx hb dL_law_569 (by decide) ?_
              exact J570 0 _ _ _ h hP hS (lv_sub hl [1, 0] rfl)
            · refine lv_aload_n hx hb dL_law_555 rfl (lv_at hl 1 rfl) ?_
              refine lv_iload_n hx hb dL_law_556 rfl (lv_at hl 0 rfl) ?_
              refine lv_bipush (v := 6) hx hb dL_law_557 (by decide) ?_
              obtain ⟨z42, hc559, h⟩ := k_b1_e h
              refine g_callRI_V (As := [.int z22, .int 6]) (rest := []) hC (mX4_row l dC dI cyI cyC cyO ob n0 n1 n2 n3 t0 t1 t2 t3 s0 aR ro r1 r2 r3 x0 x1 x2 x3 x4 c7 c8 c9 c10 c11 c12 c13 c14 c15 c16 c17 c18 c19 c20 c21 x_signs x_length x_position x_complete x_orders x_kinds x_numbers x_values z22 6 hc559) q231 q232 q233 q8 q234 2 hdX4_row ⟨Nat.le_of_ble_eq_true rfl, Nat.le_of_ble_eq_true rfl⟩ ⟨Nat.le_of_ble_eq_true rfl, Nat.le_of_ble_eq_true rfl⟩ rfl rfl hl.1 (Nat.le_of_ble_eq_true rfl) hP hK (va_recv hK hP (ci := 3) (q0 := 0) rfl rfl) hS dL_law_559 (fun H locs hk hS => ?_)
              have hP := k_kept hP hk
              refine g_if_le (tgt := 569) hx hb dL_law_562 (by decide) h (fun h => ?_) (fun h => ?_)
              · refine lv_iconst (v := 0) hx hb dL_law_569 (by decide) ?_
                exact J570 0 _ _ _ h hP hS (lv_sub hl [1, 0] rfl)
              · refine lv_iconst (v := 1) hx hb dL_law_565 (by decide) ?_
                refine lv_goto (tgt := 570) hx hb dL_law_566 (by decide) ?_
                exact J570 1 _ _ _ h hP hS (lv_sub hl [1, 0] rfl)
      obtain ⟨S40, hS40⟩ : ∃ z, z = (fL_law_s40 K525 sL xs z6) := ⟨_, rfl⟩
      rw [← hS40] at h
      have L40 : ∀ (n : Nat) (z43 : Int32) (c44 : Nat → Int32) (c45 : Nat → Int32) (c46 : Nat → Int32) (c47 : Int32) (c48 : Int32) (c49 : Int32) (c50 : Nat → Int32) (c51 : Nat → Int32) (c52 : Nat → Int32) (c53 : Int32) (c54 : Int32) (c55 : Int32) (c56 : Nat → SV) (c57 : Int32) (c58 : Int32) (H : Heap) (locs : List Loc) (ls : Array Slot), k_l16 S40 n z43 c44 c45 c46 c47 c48 c49 c50 c51 c52 c53 c54 c55 c56 c57 c58 = some 1 → va_P (dC, dI) vwCl (wAll cyI cyC cyO ob n0 n1 n2 n3 t0 t1 t2 t3 s0 aR ro r1 r2 r3 x0 x1 x2 x3 x4 c44 c45 c46 c47 c48 c49 c50 c51 c52 c53 c54 c55 c56 c57 c58 x_signs x_length x_position x_complete x_orders x_kinds x_numbers x_values) H → va_S A s.heap H locs → lv_has ls 13 [(0, .ref b), (1, .ref ob), (2, .int z6), (3, .int z43)] → W p l e room_1 s m #[Value.ref b] below meth c H locs 50 3400 Q (F0 m 40 ls []) := by
        intro n
        induction n with
        | zero =>
          intro z43 c44 c45 c46 c47 c48 c49 c50 c51 c52 c53 c54 c55 c56 c57 c58 H locs ls h
          exact (k_l16_0 h).elim
        | succ n ih40 =>
          intro z43 c44 c45 c46 c47 c48 c49 c50 c51 c52 c53 c54 c55 c56 c57 c58 H locs ls h hP hS hl
          have hD : va_D A (wAll cyI cyC cyO ob n0 n1 n2 n3 t0 t1 t2 t3 s0 aR ro r1 r2 r3 x0 x1 x2 x3 x4 c44 c45 c46 c47 c48 c49 c50 c51 c52 c53 c54 c55 c56 c57 c58 x_signs x_length x_position x_complete x_orders x_kinds x_numbers x_values) := k_Dm hD rfl
          have h := k_l16_s h
          have h := k_a17 hS40 h
          unfold fL_law_s40 at h
          refine lv_iload_n hx hb dL_law_40 rfl (lv_at hl 3 rfl) ?_
          refine lv_bipush (v := 26) hx hb dL_law_41 (by decide) ?_
          refine g_icmp_ge (tgt := 525) hx hb dL_law_43 (by decide) h (fun h => ?_) (fun h => ?_)
          · exact J525 c44 c45 c46 c47 c48 c49 c50 c51 c52 c53 c54 c55 c56 c57 c58 _ _ _ h hP hS (lv_sub hl [1] rfl)
          · refine lv_aload_n hx hb dL_law_46 rfl (lv_at hl 0 rfl) ?_
            refine lv_iconst (v := 1) hx hb dL_law_47 (by decide) ?_
            refine lv_iload_n hx hb dL_law_48 rfl (lv_at hl 3 rfl) ?_
            refine g_iadd hx hb dL_law_49 h (fun z59 h => ?_)
            obtain ⟨z60, hc50, h⟩ := k_b1_e h
            refine g_callX_S (As := [.ref b, .int z59]) (rest := []) hC (mL_cell l b sL xs z59 hc50) q382 q383 q7 q384 2 hdL_cell ⟨Nat.le_of_ble_eq_true rfl, Nat.le_of_ble_eq_true rfl⟩ ⟨Nat.le_of_ble_eq_true rfl, Nat.le_of_ble_eq_true rfl⟩ rfl rfl hl.1 (Nat.le_of_ble_eq_true rfl) hX hbl hbA hS dL_law_50 (fun H locs hk hS => ?_)
            have hP := k_kept hP hk
            refine lv_istore (lv' := [(4, .int z60), (0, .ref b), (1, .ref ob), (2, .int z6), (3, .int z43)]) hx hb dL_law_53 hl (by decide) rfl (fun ls hl => ?_)
            refine lv_iload hx hb dL_law_55 (lv_at hl 0 rfl) ?_
            refine lv_iconst (v := 4) hx hb dL_law_57 (by decide) ?_
            refine g_ishr hx hb dL_law_58 h (fun z61 h => ?_)
            refine lv_istore (lv' := [(5, .int z61), (4, .int z60), (0, .ref b), (1, .ref ob), (2, .int z6), (3, .int z43)]) hx hb dL_law_59 hl (by decide) rfl (fun ls hl => ?_)
            refine lv_iload hx hb dL_law_61 (lv_at hl 0 rfl) ?_
            refine lv_bipush (v := 20) hx hb dL_law_63 (by decide) ?_
            obtain ⟨z62, hc65, h⟩ := k_b1_e h
            refine g_callRI_S (As := [.int z61, .int 20]) (rest := []) hC (mL_low l dC dI cyI cyC cyO z61 20 hc65) q387 q388 q7 q389 2 hdL_low ⟨Nat.le_of_ble_eq_true rfl, Nat.le_of_ble_eq_true rfl⟩ ⟨Nat.le_of_ble_eq_true rfl, Nat.le_of_ble_eq_true rfl⟩ rfl rfl hl.1 (Nat.le_of_ble_eq_true rfl) va_P_nil hK hS dL_law_65 (fun H locs hk hS => ?_)
            have hP := k_kept hP hk
            refine lv_istore (lv' := [(6, .int z62), (5, .int z61), (4, .int z60), (0, .ref b), (1, .ref ob), (2, .int z6), (3, .int z43)]) hx hb dL_law_68 hl (by decide) rfl (fun ls hl => ?_)
            refine lv_iload hx hb dL_law_70 (lv_at hl 2 rfl) ?_
            refine lv_bipush (v := 11) hx hb dL_law_72 (by decide) ?_
            obtain ⟨z63, hc74, h⟩ := k_b1_e h
            refine g_callRI_S (As := [.int z60, .int 11]) (rest := []) hC (mL_low l dC dI cyI cyC cyO z60 11 hc74) q387 q388 q7 q389 2 hdL_low ⟨Nat.le_of_ble_eq_true rfl, Nat.le_of_ble_eq_true rfl⟩ ⟨Nat.le_of_ble_eq_true rfl, Nat.le_of_ble_eq_true rfl⟩ rfl rfl hl.1 (Nat.le_of_ble_eq_true rfl) va_P_nil hK hS dL_law_74 (fun H locs hk hS => ?_)
            have hP := k_kept hP hk
            refine lv_istore (lv' := [(7, .int z63), (6, .int z62), (5, .int z61), (4, .int z60), (0, .ref b), (1, .ref ob), (2, .int z6), (3, .int z43)]) hx hb dL_law_77 hl (by decide) rfl (fun ls hl => ?_)
            refine lv_iconst (v := 1) hx hb dL_law_79 (by decide) ?_
            refine lv_istore (lv' := [(8, .int 1), (7, .int z63), (6, .int z62), (5, .int z61), (4, .int z60), (0, .ref b), (1, .ref ob), (2, .int z6), (3, .int z43)]) hx hb dL_law_80 hl (by decide) rfl (fun ls hl => ?_)
            refine lv_iload hx hb dL_law_82 (lv_at hl 1 rfl) ?_
            refine lv_iconst (v := 5) hx hb dL_law_84 (by decide) ?_
            obtain ⟨K494, hK494, h⟩ := k_j16_e h
            have J494 : ∀ (z64 : Int32) (c65 : Nat → Int32) (c66 : Nat → Int32) (c67 : Nat → Int32) (c68 : Int32) (c69 : Int32) (c70 : Int32) (c71 : Nat → Int32) (c72 : Nat → Int32) (c73 : Nat → Int32) (c74 : Int32) (c75 : Int32) (c76 : Int32) (c77 : Nat → SV) (c78 : Int32) (c79 : Int32) (H : Heap) (locs : List Loc) (ls : Array Slot), K494 z64 c65 c66 c67 c68 c69 c70 c71 c72 c73 c74 c75 c76 c77 c78 c79 = some 1 → va_P (dC, dI) vwCl (wAll cyI cyC cyO ob n0 n1 n2 n3 t0 t1 t2 t3 s0 aR ro r1 r2 r3 x0 x1 x2 x3 x4 c65 c66 c67 c68 c69 c70 c71 c72 c73 c74 c75 c76 c77 c78 c79 x_signs x_length x_position x_complete x_orders x_kinds x_numbers x_values) H → va_S A s.heap H locs → lv_has ls 13 [(0, .ref b), (1, .ref ob), (2, .int z6), (3, .int z43), (5, .int z61), (6, .int z62), (8, .int z64)] → W p l e room_1 s m #[Value.ref b] below meth c H locs 50 3400 Q (F0 m 494 ls []) := by
              intro z64 c65 c66 c67 c68 c69 c70 c71 c72 c73 c74 c75 c76 c77 c78 c79 H locs ls h hP hS hl
              have hD : va_D A (wAll cyI cyC cyO ob n0 n1 n2 n3 t0 t1 t2 t3 s0 aR ro r1 r2 r3 x0 x1 x2 x3 x4 c65 c66 c67 c68 c69 c70 c71 c72 c73 c74 c75 c76 c77 c78 c79 x_signs x_length x_position x_complete x_orders x_kinds x_numbers x_values) := k_Dm hD rfl
              have h := k_a16 hK494 h
              refine lv_iload hx hb dL_law_494 (lv_at hl 6 rfl) ?_
              refine g_if_eq (tgt := 517) hx hb dL_law_496 (by decide) h (fun h => ?_) (fun h => ?_)
              · refine lv_iconst (v := 0) hx hb dL_law_517 (by decide) ?_
                exact (k_01 h).elim
              · refine lv_aload_n hx hb dL_law_499 rfl (lv_at hl 1 rfl) ?_
                obtain ⟨z80, hc500, h⟩ := k_b1_e h
                refine g_callRI_S (As := [.ref ob]) (rest := []) hC (mL_addUp l dC dI cyI cyC cyO ob n0 n1 n2 n3 t0 t1 t2 t3 s0 aR ro r1 r2 r3 x0 x1 x2 x3 x4 c65 c66 c67 c68 c69 c70 c71 c72 c73 c74 c75 c76 c77 c78 c79 x_signs x_length x_position x_complete x_orders x_kinds x_numbers x_values hc500) q455 q456 q7 q457 1 hdL_addUp ⟨Nat.le_of_ble_eq_true rfl, Nat.le_of_ble_eq_true rfl⟩ ⟨Nat.le_of_ble_eq_true rfl, Nat.le_of_ble_eq_true rfl⟩ rfl rfl hl.1 (Nat.le_of_ble_eq_true rfl) hP hK hS dL_law_500 (fun H locs hk hS => ?_)
                have hP := k_kept hP hk
                refine g_if_eq (tgt := 517) hx hb dL_law_503 (by decide) h (fun h => ?_) (fun h => ?_)
                · refine lv_iconst (v := 0) hx hb dL_law_517 (by decide) ?_
                  exact (k_01 h).elim
                · refine lv_aload_n hx hb dL_law_506 rfl (lv_at hl 1 rfl) ?_
                  refine lv_iload hx hb dL_law_507 (lv_at hl 5 rfl) ?_
                  refine lv_iload hx hb dL_law_509 (lv_at hl 4 rfl) ?_
                  obtain ⟨z81, c82, c83, c84, c85, c86, c87, c88, c89, c90, hc511, h⟩ := k_b10_e h
                  refine g_callMI_S (As := [.ref ob, .int z62, .int z61]) (rest := []) hC (mL_isSealed l dC dI cyI cyC cyO ob n0 n1 n2 n3 t0 t1 t2 t3 s0 aR ro r1 r2 r3 x0 x1 x2 x3 x4 c65 c66 c67 c68 c69 c70 c71 c72 c73 c74 c75 c76 c77 c78 c79 x_signs x_length x_position x_complete x_orders x_kinds x_numbers x_values z62 z61 hc511) q405 q406 q7 q407 3 hdL_isSealed ⟨Nat.le_of_ble_eq_true rfl, Nat.le_of_ble_eq_true rfl⟩ ⟨Nat.le_of_ble_eq_true rfl, Nat.le_of_ble_eq_true rfl⟩ rfl rfl hl.1 (Nat.le_of_ble_eq_true rfl) hP hK hD hS dL_law_511 (fun H locs hPn hk hS => ?_)
                  have hP : va_P (dC, dI) vwCl (wAll cyI cyC cyO ob n0 n1 n2 n3 t0 t1 t2 t3 s0 aR ro r1 r2 r3 x0 x1 x2 x3 x4 c82 c83 c84 c85 c86 c87 c71 c72 c73 c74 c75 c76 c88 c89 c90 x_signs x_length x_position x_complete x_orders x_kinds x_numbers x_values) H := hPn
                  have hD : va_D A (wAll cyI cyC cyO ob n0 n1 n2 n3 t0 t1 t2 t3 s0 aR ro r1 r2 r3 x0 x1 x2 x3 x4 c82 c83 c84 c85 c86 c87 c71 c72 c73 c74 c75 c76 c88 c89 c90 x_signs x_length x_position x_complete x_orders x_kinds x_numbers x_values) := k_Dm hD rfl
                  refine g_if_ne (tgt := 519) hx hb dL_law_514 (by decide) h (fun h => ?_) (fun h => ?_)
                  · refine g_iinc (dv := 1) hx hb dL_law_519 hl (j := 3) rfl (by decide) (by decide) h (fun z91 ls h hl => ?_)
                    have hl : lv_has ls 13 [(3, .int z91), (0, .ref b), (1, .ref ob), (2, .int z6), (5, .int z61), (6, .int z62), (8, .int z64)] := hl
                    refine lv_goto (tgt := 40) hx hb dL_law_522 (by decide) ?_
                    exact ih40 z91 c82 c83 c84 c85 c86 c87 c71 c72 c73 c74 c75 c76 c88 c89 c90 _ _ _ h hP hS (lv_sub hl [1, 2, 3, 0] rfl)
                  · refine lv_iconst (v := 0) hx hb dL_law_517 (by decide) ?_
                    exact (k_01 h).elim
            refine g_icmp_ge (tgt := 141) hx hb dL_law_85 (by decide) h (fun h => ?_) (fun h => ?_)
            · refine lv_iload hx hb dL_law_141 (lv_at hl 1 rfl) ?_
              refine lv_iconst (v := 5) hx hb dL_law_143 (by decide) ?_
              refine g_icmp_ne (tgt := 239) hx hb dL_law_144 (by decide) h (fun h => ?_) (fun h => ?_)
              · refine lv_iload hx hb dL_law_239 (lv_at hl 1 rfl) ?_
                refine lv_bipush (v := 6) hx hb dL_law_241 (by decide) ?_
                refine g_icmp_ne (tgt := 277) hx hb dL_law_243 (by decide) h (fun h => ?_) (fun h => ?_)
                · refine lv_iload hx hb dL_law_277 (lv_at hl 1 rfl) ?_
                  refine lv_bipush (v := 7) hx hb dL_law_279 (by decide) ?_
                  refine g_icmp_ne (tgt := 302) hx hb dL_law_281 (by decide) h (fun h => ?_) (fun h => ?_)
                  · refine lv_iload hx hb dL_law_302 (lv_at hl 1 rfl) ?_
                    refine lv_bipush (v := 8) hx hb dL_law_304 (by decide) ?_
                    refine g_icmp_ne (tgt := 352) hx hb dL_law_306 (by decide) h (fun h => ?_) (fun h => ?_)
                    · refine lv_iload hx hb dL_law_352 (lv_at hl 1 rfl) ?_
                      refine lv_bipush (v := 9) hx hb dL_law_354 (by decide) ?_
                      refine g_icmp_ne (tgt := 432) hx hb dL_law_356 (by decide) h (fun h => ?_) (fun h => ?_)
                      · refine lv_iload hx hb dL_law_432 (lv_at hl 3 rfl) ?_
                        refine lv_iconst (v := 5) hx hb dL_law_434 (by decide) ?_
                        refine g_ishr hx hb dL_law_435 h (fun z92 h => ?_)
                        refine lv_iconst (v := 4) hx hb dL_law_436 (by decide) ?_
                        obtain ⟨z93, hc437, h⟩ := k_b1_e h
                        refine g_callRI_S (As := [.int z92, .int 4]) (rest := []) hC (mL_low l dC dI cyI cyC cyO z92 4 hc437) q387 q388 q7 q389 2 hdL_low ⟨Nat.le_of_ble_eq_true rfl, Nat.le_of_ble_eq_true rfl⟩ ⟨Nat.le_of_ble_eq_true rfl, Nat.le_of_ble_eq_true rfl⟩ rfl rfl hl.1 (Nat.le_of_ble_eq_true rfl) va_P_nil hK hS dL_law_437 (fun H locs hk hS => ?_)
                        have hP := k_kept hP hk
                        refine g_if_ne (tgt := 494) hx hb dL_law_440 (by decide) h (fun h => ?_) (fun h => ?_)
                        · exact J494 1 c44 c45 c46 c47 c48 c49 c50 c51 c52 c53 c54 c55 c56 c57 c58 _ _ _ h hP hS (lv_sub hl [5, 6, 7, 8, 3, 2, 0] rfl)
                        · refine lv_aload_n hx hb dL_law_443 rfl (lv_at hl 6 rfl) ?_
                          refine lv_iload hx hb dL_law_444 (lv_at hl 2 rfl) ?_
                          refine lv_bipush (v := 7) hx hb dL_law_446 (by decide) ?_
                          obtain ⟨z94, hc448, h⟩ := k_b1_e h
                          refine g_callRI_V (As := [.int z62, .int 7]) (rest := []) hC (mX4_row l dC dI cyI cyC cyO ob n0 n1 n2 n3 t0 t1 t2 t3 s0 aR ro r1 r2 r3 x0 x1 x2 x3 x4 c44 c45 c46 c47 c48 c49 c50 c51 c52 c53 c54 c55 c56 c57 c58 x_signs x_length x_position x_complete x_orders x_kinds x_numbers x_values z62 7 hc448) q231 q232 q233 q8 q234 2 hdX4_row ⟨Nat.le_of_ble_eq_true rfl, Nat.le_of_ble_eq_true rfl⟩ ⟨Nat.le_of_ble_eq_true rfl, Nat.le_of_ble_eq_true rfl⟩ rfl rfl hl.1 (Nat.le_of_ble_eq_true rfl) hP hK (va_recv hK hP (ci := 3) (q0 := 0) rfl rfl) hS dL_law_448 (fun H locs hk hS => ?_)
                          have hP := k_kept hP hk
                          refine g_if_ne (tgt := 494) hx hb dL_law_451 (by decide) h (fun h => ?_) (fun h => ?_)
                          · exact J494 1 c44 c45 c46 c47 c48 c49 c50 c51 c52 c53 c54 c55 c56 c57 c58 _ _ _ h hP hS (lv_sub hl [5, 6, 7, 8, 3, 2, 0] rfl)
                          · refine lv_aload_n hx hb dL_law_454 rfl (lv_at hl 6 rfl) ?_
                            refine lv_bipush (v := 6) hx hb dL_law_455 (by decide) ?_
                            obtain ⟨z95, hc457, h⟩ := k_b1_e h
                            refine g_callRI_V (As := [.int 6]) (rest := []) hC (mX4_count l dC dI cyI cyC cyO ob n0 n1 n2 n3 t0 t1 t2 t3 s0 aR ro r1 r2 r3 x0 x1 x2 x3 x4 c44 c45 c46 c47 c48 c49 c50 c51 c52 c53 c54 c55 c56 c57 c58 x_signs x_length x_position x_complete x_orders x_kinds x_numbers x_values 6 hc457) q299 q300 q301 q8 q302 1 hdX4_count ⟨Nat.le_of_ble_eq_true rfl, Nat.le_of_ble_eq_true rfl⟩ ⟨Nat.le_of_ble_eq_true rfl, Nat.le_of_ble_eq_true rfl⟩ rfl rfl hl.1 (Nat.le_of_ble_eq_true rfl) hP hK (va_recv hK hP (ci := 3) (q0 := 0) rfl rfl) hS dL_law_457 (fun H locs hk hS => ?_)
                            have hP := k_kept hP hk
                            refine lv_istore (lv' := [(9, .int z95), (8, .int 1), (7, .int z63), (6, .int z62), (5, .int z61), (4, .int z60), (0, .ref b), (1, .ref ob), (2, .int z6), (3, .int z43)]) hx hb dL_law_460 hl (by decide) rfl (fun ls hl => ?_)
                            refine lv_aload_n hx hb dL_law_462 rfl (lv_at hl 7 rfl) ?_
                            refine lv_iload hx hb dL_law_463 (lv_at hl 3 rfl) ?_
                            obtain ⟨z96, c97, c98, c99, c100, c101, c102, hc465, h⟩ := k_b7_e h
                            refine g_callMI_V (As := [.int z62]) (rest := []) hC (mX4_lock l dC dI cyI cyC cyO ob n0 n1 n2 n3 t0 t1 t2 t3 s0 aR ro r1 r2 r3 x0 x1 x2 x3 x4 c44 c45 c46 c47 c48 c49 c50 c51 c52 c53 c54 c55 c56 c57 c58 x_signs x_length x_position x_complete x_orders x_kinds x_numbers x_values z62 hc465) q184 q185 q186 q8 q187 1 hdX4_lock ⟨Nat.le_of_ble_eq_true rfl, Nat.le_of_ble_eq_true rfl⟩ ⟨Nat.le_of_ble_eq_true rfl, Nat.le_of_ble_eq_true rfl⟩ rfl rfl hl.1 (Nat.le_of_ble_eq_true rfl) hP hK hD (va_recv hK hP (ci := 3) (q0 := 0) rfl rfl) hS dL_law_465 (fun H locs hPn hk hS => ?_)
                            have hP : va_P (dC, dI) vwCl (wAll cyI cyC cyO ob n0 n1 n2 n3 t0 t1 t2 t3 s0 aR ro r1 r2 r3 x0 x1 x2 x3 x4 c97 c98 c46 c47 c99 c49 c50 c51 c52 c53 c54 c55 c100 c101 c102 x_signs x_length x_position x_complete x_orders x_kinds x_numbers x_values) H := hPn
                            have hD : va_D A (wAll cyI cyC cyO ob n0 n1 n2 n3 t0 t1 t2 t3 s0 aR ro r1 r2 r3 x0 x1 x2 x3 x4 c97 c98 c46 c47 c99 c49 c50 c51 c52 c53 c54 c55 c100 c101 c102 x_signs x_length x_position x_complete x_orders x_kinds x_numbers x_values) := k_Dm hD rfl
                            refine lv_iload hx hb dL_law_468 (lv_at hl 0 rfl) ?_
                            refine lv_iconst (v := 1) hx hb dL_law_470 (by decide) ?_
                            refine g_iadd hx hb dL_law_471 h (fun z103 h => ?_)
                            obtain ⟨K492, hK492, h⟩ := k_j1_e h
                            have J492 : ∀ (z104 : Int32) (H : Heap) (locs : List Loc) (ls : Array Slot), K492 z104 = some 1 → va_P (dC, dI) vwCl (wAll cyI cyC cyO ob n0 n1 n2 n3 t0 t1 t2 t3 s0 aR ro r1 r2 r3 x0 x1 x2 x3 x4 c97 c98 c46 c47 c99 c49 c50 c51 c52 c53 c54 c55 c100 c101 c102 x_signs x_length x_position x_complete x_orders x_kinds x_numbers x_values) H → va_S A s.heap H locs → lv_has ls 13 [(0, .ref b), (1, .ref ob), (2, .int z6), (3, .int z43), (5, .int z61), (6, .int z62)] → W p l e room_1 s m #[Value.ref b] below meth c H locs 50 3400 Q (F0 m 492 ls [.int z104]) := by
                              intro z104 H locs ls h hP hS hl
                              have h := k_a1 hK492 h
                              refine lv_istore (lv' := [(8, .int z104), (0, .ref b), (1, .ref ob), (2, .int z6), (3, .int z43), (5, .int z61), (6, .int z62)]) hx hb dL_law_492 hl (by decide) rfl (fun ls hl => ?_)
                              exact J494 z104 c97 c98 c46 c47 c99 c49 c50 c51 c52 c53 c54 c55 c100 c101 c102 _ _ _ h hP hS (lv_sub hl [1, 2, 3, 4, 5, 6, 0] rfl)
                            refine g_icmp_ne (tgt := 491) hx hb dL_law_472 (by decide) h (fun h => ?_) (fun h => ?_)
                            · refine lv_iconst (v := 0) hx hb dL_law_491 (by decide) ?_
                              exact J492 0 _ _ _ h hP hS (lv_sub hl [6, 7, 8, 9, 4, 3] rfl)
                            · refine lv_aload_n hx hb dL_law_475 rfl (lv_at hl 7 rfl) ?_
                              refine lv_iload hx hb dL_law_476 (lv_at hl 3 rfl) ?_
                              refine lv_bipush (v := 7) hx hb dL_law_478 (by decide) ?_
                              obtain ⟨z105, hc480, h⟩ := k_b1_e h
                              refine g_callRI_V (As := [.int z62, .int 7]) (rest := []) hC (mX4_row l dC dI cyI cyC cyO ob n0 n1 n2 n3 t0 t1 t2 t3 s0 aR ro r1 r2 r3 x0 x1 x2 x3 x4 c97 c98 c46 c47 c99 c49 c50 c51 c52 c53 c54 c55 c100 c101 c102 x_signs x_length x_position x_complete x_orders x_kinds x_numbers x_values z62 7 hc480) q231 q232 q233 q8 q234 2 hdX4_row ⟨Nat.le_of_ble_eq_true rfl, Nat.le_of_ble_eq_true rfl⟩ ⟨Nat.le_of_ble_eq_true rfl, Nat.le_of_ble_eq_true rfl⟩ rfl rfl hl.1 (Nat.le_of_ble_eq_true rfl) hP hK (va_recv hK hP (ci := 3) (q0 := 0) rfl rfl) hS dL_law_480 (fun H locs hk hS => ?_)
                              have hP := k_kept hP hk
                              refine lv_iconst (v := 1) hx hb dL_law_483 (by decide) ?_
                              refine g_icmp_ne (tgt := 491) hx hb dL_law_484 (by decide) h (fun h => ?_) (fun h => ?_)
                              · refine lv_iconst (v := 0) hx hb dL_law_491 (by decide) ?_
                                exact J492 0 _ _ _ h hP hS (lv_sub hl [6, 7, 8, 9, 4, 3] rfl)
                              · refine lv_iconst (v := 1) hx hb dL_law_487 (by decide) ?_
                                refine lv_goto (tgt := 492) hx hb dL_law_488 (by decide) ?_
                                exact J492 1 _ _ _ h hP hS (lv_sub hl [6, 7, 8, 9, 4, 3] rfl)
                      · refine lv_iload hx hb dL_law_359 (lv_at hl 3 rfl) ?_
                        refine lv_iload_n hx hb dL_law_361 rfl (lv_at hl 7 rfl) ?_
                        obtain ⟨z106, hc362, h⟩ := k_b1_e h
                        refine g_callRI_S (As := [.int z61, .int z6]) (rest := []) hC (mL_low l dC dI cyI cyC cyO z61 z6 hc362) q387 q388 q7 q389 2 hdL_low ⟨Nat.le_of_ble_eq_true rfl, Nat.le_of_ble_eq_true rfl⟩ ⟨Nat.le_of_ble_eq_true rfl, Nat.le_of_ble_eq_true rfl⟩ rfl rfl hl.1 (Nat.le_of_ble_eq_true rfl) va_P_nil hK hS dL_law_362 (fun H locs hk hS => ?_)
                        have hP := k_kept hP hk
                        refine lv_istore (lv' := [(9, .int z106), (8, .int 1), (7, .int z63), (6, .int z62), (5, .int z61), (4, .int z60), (0, .ref b), (1, .ref ob), (2, .int z6), (3, .int z43)]) hx hb dL_law_365 hl (by decide) rfl (fun ls hl => ?_)
                        refine lv_aload_n hx hb dL_law_367 rfl (lv_at hl 7 rfl) ?_
                        refine lv_iload hx hb dL_law_368 (lv_at hl 0 rfl) ?_
                        refine lv_iconst (v := 2) hx hb dL_law_370 (by decide) ?_
                        obtain ⟨z107, hc371, h⟩ := k_b1_e h
                        refine g_callRI_V (As := [.int z106, .int 2]) (rest := []) hC (mX4_key l dC dI cyI cyC cyO ob n0 n1 n2 n3 t0 t1 t2 t3 s0 aR ro r1 r2 r3 x0 x1 x2 x3 x4 c44 c45 c46 c47 c48 c49 c50 c51 c52 c53 c54 c55 c56 c57 c58 x_signs x_length x_position x_complete x_orders x_kinds x_numbers x_values z106 2 hc371) q257 q258 q259 q8 q260 2 hdX4_key ⟨Nat.le_of_ble_eq_true rfl, Nat.le_of_ble_eq_true rfl⟩ ⟨Nat.le_of_ble_eq_true rfl, Nat.le_of_ble_eq_true rfl⟩ rfl rfl hl.1 (Nat.le_of_ble_eq_true rfl) hP hK (va_recv hK hP (ci := 3) (q0 := 0) rfl rfl) hS dL_law_371 (fun H locs hk hS => ?_)
                        have hP := k_kept hP hk
                        refine lv_istore (lv' := [(10, .int z107), (9, .int z106), (8, .int 1), (7, .int z63), (6, .int z62), (5, .int z61), (4, .int z60), (0, .ref b), (1, .ref ob), (2, .int z6), (3, .int z43)]) hx hb dL_law_374 hl (by decide) rfl (fun ls hl => ?_)
                        refine lv_aload_n hx hb dL_law_376 rfl (lv_at hl 8 rfl) ?_
                        refine lv_bipush (v := 6) hx hb dL_law_377 (by decide) ?_
                        obtain ⟨z108, hc379, h⟩ := k_b1_e h
                        refine g_callRI_V (As := [.int 6]) (rest := []) hC (mX4_count l dC dI cyI cyC cyO ob n0 n1 n2 n3 t0 t1 t2 t3 s0 aR ro r1 r2 r3 x0 x1 x2 x3 x4 c44 c45 c46 c47 c48 c49 c50 c51 c52 c53 c54 c55 c56 c57 c58 x_signs x_length x_position x_complete x_orders x_kinds x_numbers x_values 6 hc379) q299 q300 q301 q8 q302 1 hdX4_count ⟨Nat.le_of_ble_eq_true rfl, Nat.le_of_ble_eq_true rfl⟩ ⟨Nat.le_of_ble_eq_true rfl, Nat.le_of_ble_eq_true rfl⟩ rfl rfl hl.1 (Nat.le_of_ble_eq_true rfl) hP hK (va_recv hK hP (ci := 3) (q0 := 0) rfl rfl) hS dL_law_379 (fun H locs hk hS => ?_)
                        have hP := k_kept hP hk
                        refine lv_istore (lv' := [(11, .int z108), (10, .int z107), (9, .int z106), (8, .int 1), (7, .int z63), (6, .int z62), (5, .int z61), (4, .int z60), (0, .ref b), (1, .ref ob), (2, .int z6), (3, .int z43)]) hx hb dL_law_382 hl (by decide) rfl (fun ls hl => ?_)
                        refine lv_aload_n hx hb dL_law_384 rfl (lv_at hl 9 rfl) ?_
                        refine lv_iload hx hb dL_law_385 (lv_at hl 2 rfl) ?_
                        obtain ⟨z109, c110, c111, c112, c113, c114, c115, hc387, h⟩ := k_b7_e h
                        refine g_callMI_V (As := [.int z106]) (rest := []) hC (mX4_drop l dC dI cyI cyC cyO ob n0 n1 n2 n3 t0 t1 t2 t3 s0 aR ro r1 r2 r3 x0 x1 x2 x3 x4 c44 c45 c46 c47 c48 c49 c50 c51 c52 c53 c54 c55 c56 c57 c58 x_signs x_length x_position x_complete x_orders x_kinds x_numbers x_values z106 hc387) q76 q77 q78 q8 q79 1 hdX4_drop ⟨Nat.le_of_ble_eq_true rfl, Nat.le_of_ble_eq_true rfl⟩ ⟨Nat.le_of_ble_eq_true rfl, Nat.le_of_ble_eq_true rfl⟩ rfl rfl hl.1 (Nat.le_of_ble_eq_true rfl) hP hK hD (va_recv hK hP (ci := 3) (q0 := 0) rfl rfl) hS dL_law_387 (fun H locs hPn hk hS => ?_)
                        have hP : va_P (dC, dI) vwCl (wAll cyI cyC cyO ob n0 n1 n2 n3 t0 t1 t2 t3 s0 aR ro r1 r2 r3 x0 x1 x2 x3 x4 c110 c111 c46 c47 c112 c49 c50 c51 c52 c53 c54 c55 c113 c114 c115 x_signs x_length x_position x_complete x_orders x_kinds x_numbers x_values) H := hPn
                        have hD : va_D A (wAll cyI cyC cyO ob n0 n1 n2 n3 t0 t1 t2 t3 s0 aR ro r1 r2 r3 x0 x1 x2 x3 x4 c110 c111 c46 c47 c112 c49 c50 c51 c52 c53 c54 c55 c113 c114 c115 x_signs x_length x_position x_complete x_orders x_kinds x_numbers x_values) := k_Dm hD rfl
                        refine lv_istore (lv' := [(12, .int z109), (11, .int z108), (10, .int z107), (9, .int z106), (8, .int 1), (7, .int z63), (6, .int z62), (5, .int z61), (4, .int z60), (0, .ref b), (1, .ref ob), (2, .int z6), (3, .int z43)]) hx hb dL_law_390 hl (by decide) rfl (fun ls hl => ?_)
                        refine lv_iload hx hb dL_law_392 (lv_at hl 0 rfl) ?_
                        refine lv_iload hx hb dL_law_394 (lv_at hl 2 rfl) ?_
                        obtain ⟨K427, hK427, h⟩ := k_j1_e h
                        have J427 : ∀ (z116 : Int32) (H : Heap) (locs : List Loc) (ls : Array Slot), K427 z116 = some 1 → va_P (dC, dI) vwCl (wAll cyI cyC cyO ob n0 n1 n2 n3 t0 t1 t2 t3 s0 aR ro r1 r2 r3 x0 x1 x2 x3 x4 c110 c111 c46 c47 c112 c49 c50 c51 c52 c53 c54 c55 c113 c114 c115 x_signs x_length x_position x_complete x_orders x_kinds x_numbers x_values) H → va_S A s.heap H locs → lv_has ls 13 [(0, .ref b), (1, .ref ob), (2, .int z6), (3, .int z43), (5, .int z61), (6, .int z62)] → W p l e room_1 s m #[Value.ref b] below meth c H locs 50 3400 Q (F0 m 427 ls [.int z116]) := by
                          intro z116 H locs ls h hP hS hl
                          have h := k_a1 hK427 h
                          refine lv_istore (lv' := [(8, .int z116), (0, .ref b), (1, .ref ob), (2, .int z6), (3, .int z43), (5, .int z61), (6, .int z62)]) hx hb dL_law_427 hl (by decide) rfl (fun ls hl => ?_)
                          refine lv_goto (tgt := 494) hx hb dL_law_429 (by decide) ?_
                          exact J494 z116 c110 c111 c46 c47 c112 c49 c50 c51 c52 c53 c54 c55 c113 c114 c115 _ _ _ h hP hS (lv_sub hl [1, 2, 3, 4, 5, 6, 0] rfl)
                        refine g_icmp_gt (tgt := 426) hx hb dL_law_396 (by decide) h (fun h => ?_) (fun h => ?_)
                        · refine lv_iconst (v := 0) hx hb dL_law_426 (by decide) ?_
                          exact J427 0 _ _ _ h hP hS (lv_sub hl [9, 10, 11, 12, 7, 6] rfl)
                        · refine lv_iload hx hb dL_law_399 (lv_at hl 1 rfl) ?_
                          refine g_if_gt (tgt := 422) hx hb dL_law_401 (by decide) h (fun h => ?_) (fun h => ?_)
                          · refine lv_iconst (v := 1) hx hb dL_law_422 (by decide) ?_
                            refine lv_goto (tgt := 427) hx hb dL_law_423 (by decide) ?_
                            exact J427 1 _ _ _ h hP hS (lv_sub hl [9, 10, 11, 12, 7, 6] rfl)
                          · refine lv_iload hx hb dL_law_404 (lv_at hl 0 rfl) ?_
                            refine lv_iload hx hb dL_law_406 (lv_at hl 2 rfl) ?_
                            refine g_icmp_ne (tgt := 426) hx hb dL_law_408 (by decide) h (fun h => ?_) (fun h => ?_)
                            · refine lv_iconst (v := 0) hx hb dL_law_426 (by decide) ?_
                              exact J427 0 _ _ _ h hP hS (lv_sub hl [9, 10, 11, 12, 7, 6] rfl)
                            · refine lv_aload_n hx hb dL_law_411 rfl (lv_at hl 10 rfl) ?_
                              refine lv_iload hx hb dL_law_412 (lv_at hl 3 rfl) ?_
                              refine lv_iconst (v := 0) hx hb dL_law_414 (by decide) ?_
                              obtain ⟨z117, hc415, h⟩ := k_b1_e h
                              refine g_callRI_V (As := [.int z106, .int 0]) (rest := []) hC (mX4_key l dC dI cyI cyC cyO ob n0 n1 n2 n3 t0 t1 t2 t3 s0 aR ro r1 r2 r3 x0 x1 x2 x3 x4 c110 c111 c46 c47 c112 c49 c50 c51 c52 c53 c54 c55 c113 c114 c115 x_signs x_length x_position x_complete x_orders x_kinds x_numbers x_values z106 0 hc415) q257 q258 q259 q8 q260 2 hdX4_key ⟨Nat.le_of_ble_eq_true rfl, Nat.le_of_ble_eq_true rfl⟩ ⟨Nat.le_of_ble_eq_true rfl, Nat.le_of_ble_eq_true rfl⟩ rfl rfl hl.1 (Nat.le_of_ble_eq_true rfl) hP hK (va_recv hK hP (ci := 3) (q0 := 0) rfl rfl) hS dL_law_415 (fun H locs hk hS => ?_)
                              have hP := k_kept hP hk
                              refine lv_iconst (v := (-1)) hx hb dL_law_418 (by decide) ?_
                              refine g_icmp_ne (tgt := 426) hx hb dL_law_419 (by decide) h (fun h => ?_) (fun h => ?_)
                              · refine lv_iconst (v := 0) hx hb dL_law_426 (by decide) ?_
                                exact J427 0 _ _ _ h hP hS (lv_sub hl [9, 10, 11, 12, 7, 6] rfl)
                              · refine lv_iconst (v := 1) hx hb dL_law_422 (by decide) ?_
                                refine lv_goto (tgt := 427) hx hb dL_law_423 (by decide) ?_
                                exact J427 1 _ _ _ h hP hS (lv_sub hl [9, 10, 11, 12, 7, 6] rfl)
                    · refine lv_aload_n hx hb dL_law_309 rfl (lv_at hl 6 rfl) ?_
                      refine lv_iconst (v := 0) hx hb dL_law_310 (by decide) ?_
                      obtain ⟨z118, hc311, h⟩ := k_b1_e h
                      refine g_callRI_V (As := [.int 0]) (rest := []) hC (mX4_count l dC dI cyI cyC cyO ob n0 n1 n2 n3 t0 t1 t2 t3 s0 aR ro r1 r2 r3 x0 x1 x2 x3 x4 c44 c45 c46 c47 c48 c49 c50 c51 c52 c53 c54 c55 c56 c57 c58 x_signs x_length x_position x_complete x_orders x_kinds x_numbers x_values 0 hc311) q299 q300 q301 q8 q302 1 hdX4_count ⟨Nat.le_of_ble_eq_true rfl, Nat.le_of_ble_eq_true rfl⟩ ⟨Nat.le_of_ble_eq_true rfl, Nat.le_of_ble_eq_true rfl⟩ rfl rfl hl.1 (Nat.le_of_ble_eq_true rfl) hP hK (va_recv hK hP (ci := 3) (q0 := 0) rfl rfl) hS dL_law_311 (fun H locs hk hS => ?_)
                      have hP := k_kept hP hk
                      refine lv_istore (lv' := [(9, .int z118), (8, .int 1), (7, .int z63), (6, .int z62), (5, .int z61), (4, .int z60), (0, .ref b), (1, .ref ob), (2, .int z6), (3, .int z43)]) hx hb dL_law_314 hl (by decide) rfl (fun ls hl => ?_)
                      refine lv_aload_n hx hb dL_law_316 rfl (lv_at hl 7 rfl) ?_
                      refine lv_iconst (v := 1) hx hb dL_law_317 (by decide) ?_
                      refine lv_iload hx hb dL_law_318 (lv_at hl 4 rfl) ?_
                      refine lv_iconst (v := 5) hx hb dL_law_320 (by decide) ?_
                      obtain ⟨z119, hc321, h⟩ := k_b1_e h
                      refine g_callRI_S (As := [.int z61, .int 5]) (rest := [.int 1, .ref ob]) hC (mL_low l dC dI cyI cyC cyO z61 5 hc321) q387 q388 q7 q389 2 hdL_low ⟨Nat.le_of_ble_eq_true rfl, Nat.le_of_ble_eq_true rfl⟩ ⟨Nat.le_of_ble_eq_true rfl, Nat.le_of_ble_eq_true rfl⟩ rfl rfl hl.1 (Nat.le_of_ble_eq_true rfl) va_P_nil hK hS dL_law_321 (fun H locs hk hS => ?_)
                      have hP := k_kept hP hk
                      refine g_iadd hx hb dL_law_324 h (fun z120 h => ?_)
                      obtain ⟨z121, c122, c123, c124, c125, hc325, h⟩ := k_b5_e h
                      refine g_callMI_V (As := [.int z120]) (rest := []) hC (mX4_pass l dC dI cyI cyC cyO ob n0 n1 n2 n3 t0 t1 t2 t3 s0 aR ro r1 r2 r3 x0 x1 x2 x3 x4 c44 c45 c46 c47 c48 c49 c50 c51 c52 c53 c54 c55 c56 c57 c58 x_signs x_length x_position x_complete x_orders x_kinds x_numbers x_values z120 hc325) q216 q217 q218 q8 q219 1 hdX4_pass ⟨Nat.le_of_ble_eq_true rfl, Nat.le_of_ble_eq_true rfl⟩ ⟨Nat.le_of_ble_eq_true rfl, Nat.le_of_ble_eq_true rfl⟩ rfl rfl hl.1 (Nat.le_of_ble_eq_true rfl) hP hK hD (va_recv hK hP (ci := 3) (q0 := 0) rfl rfl) hS dL_law_325 (fun H locs hPn hk hS => ?_)
                      have hP : va_P (dC, dI) vwCl (wAll cyI cyC cyO ob n0 n1 n2 n3 t0 t1 t2 t3 s0 aR ro r1 r2 r3 x0 x1 x2 x3 x4 c44 c45 c46 c122 c48 c49 c50 c51 c52 c53 c54 c55 c123 c124 c125 x_signs x_length x_position x_complete x_orders x_kinds x_numbers x_values) H := hPn
                      have hD : va_D A (wAll cyI cyC cyO ob n0 n1 n2 n3 t0 t1 t2 t3 s0 aR ro r1 r2 r3 x0 x1 x2 x3 x4 c44 c45 c46 c122 c48 c49 c50 c51 c52 c53 c54 c55 c123 c124 c125 x_signs x_length x_position x_complete x_orders x_kinds x_numbers x_values) := k_Dm hD rfl
                      refine lv_iload hx hb dL_law_328 (lv_at hl 0 rfl) ?_
                      refine lv_iconst (v := 1) hx hb dL_law_330 (by decide) ?_
                      refine g_iadd hx hb dL_law_331 h (fun z126 h => ?_)
                      refine lv_iload hx hb dL_law_332 (lv_at hl 4 rfl) ?_
                      refine lv_iconst (v := 5) hx hb dL_law_334 (by decide) ?_
                      obtain ⟨z127, hc335, h⟩ := k_b1_e h
                      refine g_callRI_S (As := [.int z61, .int 5]) (rest := [.int z126, .int z121]) hC (mL_low l dC dI cyI cyC cyO z61 5 hc335) q387 q388 q7 q389 2 hdL_low ⟨Nat.le_of_ble_eq_true rfl, Nat.le_of_ble_eq_true rfl⟩ ⟨Nat.le_of_ble_eq_true rfl, Nat.le_of_ble_eq_true rfl⟩ rfl rfl hl.1 (Nat.le_of_ble_eq_true rfl) va_P_nil hK hS dL_law_335 (fun H locs hk hS => ?_)
                      have hP := k_kept hP hk
                      refine g_iadd hx hb dL_law_338 h (fun z128 h => ?_)
                      obtain ⟨K347, hK347, h⟩ := k_j1_e h
                      have J347 : ∀ (z129 : Int32) (H : Heap) (locs : List Loc) (ls : Array Slot), K347 z129 = some 1 → va_P (dC, dI) vwCl (wAll cyI cyC cyO ob n0 n1 n2 n3 t0 t1 t2 t3 s0 aR ro r1 r2 r3 x0 x1 x2 x3 x4 c44 c45 c46 c122 c48 c49 c50 c51 c52 c53 c54 c55 c123 c124 c125 x_signs x_length x_position x_complete x_orders x_kinds x_numbers x_values) H → va_S A s.heap H locs → lv_has ls 13 [(0, .ref b), (1, .ref ob), (2, .int z6), (3, .int z43), (5, .int z61), (6, .int z62)] → W p l e room_1 s m #[Value.ref b] below meth c H locs 50 3400 Q (F0 m 347 ls [.int z129]) := by
                        intro z129 H locs ls h hP hS hl
                        have h := k_a1 hK347 h
                        refine lv_istore (lv' := [(8, .int z129), (0, .ref b), (1, .ref ob), (2, .int z6), (3, .int z43), (5, .int z61), (6, .int z62)]) hx hb dL_law_347 hl (by decide) rfl (fun ls hl => ?_)
                        refine lv_goto (tgt := 494) hx hb dL_law_349 (by decide) ?_
                        exact J494 z129 c44 c45 c46 c122 c48 c49 c50 c51 c52 c53 c54 c55 c123 c124 c125 _ _ _ h hP hS (lv_sub hl [1, 2, 3, 4, 5, 6, 0] rfl)
                      refine g_icmp_ne (tgt := 346) hx hb dL_law_339 (by decide) h (fun h => ?_) (fun h => ?_)
                      · refine lv_iconst (v := 0) hx hb dL_law_346 (by decide) ?_
                        exact J347 0 _ _ _ h hP hS (lv_sub hl [6, 7, 8, 9, 4, 3] rfl)
                      · refine lv_iconst (v := 1) hx hb dL_law_342 (by decide) ?_
                        refine lv_goto (tgt := 347) hx hb dL_law_343 (by decide) ?_
                        exact J347 1 _ _ _ h hP hS (lv_sub hl [6, 7, 8, 9, 4, 3] rfl)
                  · refine lv_aload_n hx hb dL_law_284 rfl (lv_at hl 6 rfl) ?_
                    refine lv_iconst (v := 1) hx hb dL_law_285 (by decide) ?_
                    refine lv_iload hx hb dL_law_286 (lv_at hl 3 rfl) ?_
                    refine lv_bipush (v := 9) hx hb dL_law_288 (by decide) ?_
                    obtain ⟨z130, hc290, h⟩ := k_b1_e h
                    refine g_callRI_S (As := [.int z61, .int 9]) (rest := [.int 1, .ref ob]) hC (mL_low l dC dI cyI cyC cyO z61 9 hc290) q387 q388 q7 q389 2 hdL_low ⟨Nat.le_of_ble_eq_true rfl, Nat.le_of_ble_eq_true rfl⟩ ⟨Nat.le_of_ble_eq_true rfl, Nat.le_of_ble_eq_true rfl⟩ rfl rfl hl.1 (Nat.le_of_ble_eq_true rfl) va_P_nil hK hS dL_law_290 (fun H locs hk hS => ?_)
                    have hP := k_kept hP hk
                    refine g_iadd hx hb dL_law_293 h (fun z131 h => ?_)
                    obtain ⟨z132, c133, c134, c135, c136, c137, c138, c139, c140, c141, c142, c143, hc294, h⟩ := k_b12_e h
                    refine g_callMI_S (As := [.ref ob, .int z131]) (rest := []) hC (mL_heat l dC dI cyI cyC cyO ob n0 n1 n2 n3 t0 t1 t2 t3 s0 aR ro r1 r2 r3 x0 x1 x2 x3 x4 c44 c45 c46 c47 c48 c49 c50 c51 c52 c53 c54 c55 c56 c57 c58 x_signs x_length x_position x_complete x_orders x_kinds x_numbers x_values z131 hc294) q421 q422 q7 q423 2 hdL_heat ⟨Nat.le_of_ble_eq_true rfl, Nat.le_of_ble_eq_true rfl⟩ ⟨Nat.le_of_ble_eq_true rfl, Nat.le_of_ble_eq_true rfl⟩ rfl rfl hl.1 (Nat.le_of_ble_eq_true rfl) hP hK hD hS dL_law_294 (fun H locs hPn hk hS => ?_)
                    have hP : va_P (dC, dI) vwCl (wAll cyI cyC cyO ob n0 n1 n2 n3 t0 t1 t2 t3 s0 aR ro r1 r2 r3 x0 x1 x2 x3 x4 c133 c134 c46 c47 c48 c49 c135 c136 c137 c138 c139 c140 c141 c142 c143 x_signs x_length x_position x_complete x_orders x_kinds x_numbers x_values) H := hPn
                    have hD : va_D A (wAll cyI cyC cyO ob n0 n1 n2 n3 t0 t1 t2 t3 s0 aR ro r1 r2 r3 x0 x1 x2 x3 x4 c133 c134 c46 c47 c48 c49 c135 c136 c137 c138 c139 c140 c141 c142 c143 x_signs x_length x_position x_complete x_orders x_kinds x_numbers x_values) := k_Dm hD rfl
                    refine lv_istore (lv' := [(8, .int z132), (7, .int z63), (6, .int z62), (5, .int z61), (4, .int z60), (0, .ref b), (1, .ref ob), (2, .int z6), (3, .int z43)]) hx hb dL_law_297 hl (by decide) rfl (fun ls hl => ?_)
                    refine lv_goto (tgt := 494) hx hb dL_law_299 (by decide) ?_
                    exact J494 z132 c133 c134 c46 c47 c48 c49 c135 c136 c137 c138 c139 c140 c141 c142 c143 _ _ _ h hP hS (lv_sub hl [5, 6, 7, 8, 3, 2, 0] rfl)
                · refine lv_aload_n hx hb dL_law_246 rfl (lv_at hl 6 rfl) ?_
                  refine lv_iload hx hb dL_law_247 (lv_at hl 2 rfl) ?_
                  refine lv_bipush (v := 7) hx hb dL_law_249 (by decide) ?_
                  obtain ⟨z144, hc251, h⟩ := k_b1_e h
                  refine g_callRI_V (As := [.int z62, .int 7]) (rest := []) hC (mX4_row l dC dI cyI cyC cyO ob n0 n1 n2 n3 t0 t1 t2 t3 s0 aR ro r1 r2 r3 x0 x1 x2 x3 x4 c44 c45 c46 c47 c48 c49 c50 c51 c52 c53 c54 c55 c56 c57 c58 x_signs x_length x_position x_complete x_orders x_kinds x_numbers x_values z62 7 hc251) q231 q232 q233 q8 q234 2 hdX4_row ⟨Nat.le_of_ble_eq_true rfl, Nat.le_of_ble_eq_true rfl⟩ ⟨Nat.le_of_ble_eq_true rfl, Nat.le_of_ble_eq_true rfl⟩ rfl rfl hl.1 (Nat.le_of_ble_eq_true rfl) hP hK (va_recv hK hP (ci := 3) (q0 := 0) rfl rfl) hS dL_law_251 (fun H locs hk hS => ?_)
                  have hP := k_kept hP hk
                  refine lv_iconst (v := 1) hx hb dL_law_254 (by decide) ?_
                  obtain ⟨K272, hK272, h⟩ := k_j7_e h
                  have J272 : ∀ (z145 : Int32) (c146 : Nat → Int32) (c147 : Nat → Int32) (c148 : Int32) (c149 : Nat → SV) (c150 : Int32) (c151 : Int32) (H : Heap) (locs : List Loc) (ls : Array Slot), K272 z145 c146 c147 c148 c149 c150 c151 = some 1 → va_P (dC, dI) vwCl (wAll cyI cyC cyO ob n0 n1 n2 n3 t0 t1 t2 t3 s0 aR ro r1 r2 r3 x0 x1 x2 x3 x4 c146 c147 c46 c47 c148 c49 c50 c51 c52 c53 c54 c55 c149 c150 c151 x_signs x_length x_position x_complete x_orders x_kinds x_numbers x_values) H → va_S A s.heap H locs → lv_has ls 13 [(0, .ref b), (1, .ref ob), (2, .int z6), (3, .int z43), (5, .int z61), (6, .int z62)] → W p l e room_1 s m #[Value.ref b] below meth c H locs 50 3400 Q (F0 m 272 ls [.int z145]) := by
                    intro z145 c146 c147 c148 c149 c150 c151 H locs ls h hP hS hl
                    have hD : va_D A (wAll cyI cyC cyO ob n0 n1 n2 n3 t0 t1 t2 t3 s0 aR ro r1 r2 r3 x0 x1 x2 x3 x4 c146 c147 c46 c47 c148 c49 c50 c51 c52 c53 c54 c55 c149 c150 c151 x_signs x_length x_position x_complete x_orders x_kinds x_numbers x_values) := k_Dm hD rfl
                    have h := k_a7 hK272 h
                    refine lv_istore (lv' := [(8, .int z145), (0, .ref b), (1, .ref ob), (2, .int z6), (3, .int z43), (5, .int z61), (6, .int z62)]) hx hb dL_law_272 hl (by decide) rfl (fun ls hl => ?_)
                    refine lv_goto (tgt := 494) hx hb dL_law_274 (by decide) ?_
                    exact J494 z145 c146 c147 c46 c47 c148 c49 c50 c51 c52 c53 c54 c55 c149 c150 c151 _ _ _ h hP hS (lv_sub hl [1, 2, 3, 4, 5, 6, 0] rfl)
                  refine g_icmp_eq (tgt := 267) hx hb dL_law_255 (by decide) h (fun h => ?_) (fun h => ?_)
                  · refine lv_iconst (v := 1) hx hb dL_law_267 (by decide) ?_
                    refine lv_goto (tgt := 272) hx hb dL_law_268 (by decide) ?_
                    exact J272 1 c44 c45 c48 c56 c57 c58 _ _ _ h hP hS (lv_sub hl [5, 6, 7, 8, 3, 2] rfl)
                  · refine lv_aload_n hx hb dL_law_258 rfl (lv_at hl 6 rfl) ?_
                    refine lv_iload hx hb dL_law_259 (lv_at hl 2 rfl) ?_
                    obtain ⟨z152, c153, c154, c155, c156, c157, c158, hc261, h⟩ := k_b7_e h
                    refine g_callMI_S (As := [.ref ob, .int z62]) (rest := []) hC (mL_refresh l dC dI cyI cyC cyO ob n0 n1 n2 n3 t0 t1 t2 t3 s0 aR ro r1 r2 r3 x0 x1 x2 x3 x4 c44 c45 c46 c47 c48 c49 c50 c51 c52 c53 c54 c55 c56 c57 c58 x_signs x_length x_position x_complete x_orders x_kinds x_numbers x_values z62 hc261) q439 q440 q7 q441 2 hdL_refresh ⟨Nat.le_of_ble_eq_true rfl, Nat.le_of_ble_eq_true rfl⟩ ⟨Nat.le_of_ble_eq_true rfl, Nat.le_of_ble_eq_true rfl⟩ rfl rfl hl.1 (Nat.le_of_ble_eq_true rfl) hP hK hD hS dL_law_261 (fun H locs hPn hk hS => ?_)
                    have hP : va_P (dC, dI) vwCl (wAll cyI cyC cyO ob n0 n1 n2 n3 t0 t1 t2 t3 s0 aR ro r1 r2 r3 x0 x1 x2 x3 x4 c153 c154 c46 c47 c155 c49 c50 c51 c52 c53 c54 c55 c156 c157 c158 x_signs x_length x_position x_complete x_orders x_kinds x_numbers x_values) H := hPn
                    have hD : va_D A (wAll cyI cyC cyO ob n0 n1 n2 n3 t0 t1 t2 t3 s0 aR ro r1 r2 r3 x0 x1 x2 x3 x4 c153 c154 c46 c47 c155 c49 c50 c51 c52 c53 c54 c55 c156 c157 c158 x_signs x_length x_position x_complete x_orders x_kinds x_numbers x_values) := k_Dm hD rfl
                    refine g_if_eq (tgt := 271) hx hb dL_law_264 (by decide) h (fun h => ?_) (fun h => ?_)
                    · refine lv_iconst (v := 0) hx hb dL_law_271 (by decide) ?_
                      exact J272 0 c153 c154 c155 c156 c157 c158 _ _ _ h hP hS (lv_sub hl [5, 6, 7, 8, 3, 2] rfl)
                    · refine lv_iconst (v := 1) hx hb dL_law_267 (by decide) ?_
                      refine lv_goto (tgt := 272) hx hb dL_law_268 (by decide) ?_
                      exact J272 1 c153 c154 c155 c156 c157 c158 _ _ _ h hP hS (lv_sub hl [5, 6, 7, 8, 3, 2] rfl)
              · refine lv_iconst (v := 2) hx hb dL_law_147 (by decide) ?_
                refine lv_iload hx hb dL_law_148 (lv_at hl 3 rfl) ?_
                refine lv_iconst (v := 3) hx hb dL_law_150 (by decide) ?_
                obtain ⟨z159, hc151, h⟩ := k_b1_e h
                refine g_callRI_S (As := [.int z61, .int 3]) (rest := [.int 2]) hC (mL_low l dC dI cyI cyC cyO z61 3 hc151) q387 q388 q7 q389 2 hdL_low ⟨Nat.le_of_ble_eq_true rfl, Nat.le_of_ble_eq_true rfl⟩ ⟨Nat.le_of_ble_eq_true rfl, Nat.le_of_ble_eq_true rfl⟩ rfl rfl hl.1 (Nat.le_of_ble_eq_true rfl) va_P_nil hK hS dL_law_151 (fun H locs hk hS => ?_)
                have hP := k_kept hP hk
                refine g_iadd hx hb dL_law_154 h (fun z160 h => ?_)
                refine lv_istore (lv' := [(9, .int z160), (8, .int 1), (7, .int z63), (6, .int z62), (5, .int z61), (4, .int z60), (0, .ref b), (1, .ref ob), (2, .int z6), (3, .int z43)]) hx hb dL_law_155 hl (by decide) rfl (fun ls hl => ?_)
                refine lv_aload_n hx hb dL_law_157 rfl (lv_at hl 7 rfl) ?_
                refine lv_iconst (v := 1) hx hb dL_law_158 (by decide) ?_
                refine lv_iload hx hb dL_law_159 (lv_at hl 0 rfl) ?_
                refine lv_iconst (v := 4) hx hb dL_law_161 (by decide) ?_
                obtain ⟨K171, hK171, h⟩ := k_j1_e h
                have J171 : ∀ (z161 : Int32) (H : Heap) (locs : List Loc) (ls : Array Slot), K171 z161 = some 1 → va_P (dC, dI) vwCl (wAll cyI cyC cyO ob n0 n1 n2 n3 t0 t1 t2 t3 s0 aR ro r1 r2 r3 x0 x1 x2 x3 x4 c44 c45 c46 c47 c48 c49 c50 c51 c52 c53 c54 c55 c56 c57 c58 x_signs x_length x_position x_complete x_orders x_kinds x_numbers x_values) H → va_S A s.heap H locs → lv_has ls 13 [(0, .ref b), (1, .ref ob), (2, .int z6), (3, .int z43), (5, .int z61), (6, .int z62)] → W p l e room_1 s m #[Value.ref b] below meth c H locs 50 3400 Q (F0 m 171 ls [.int z161, .int 1, .ref ob]) := by
                  intro z161 H locs ls h hP hS hl
                  have h := k_a1 hK171 h
                  obtain ⟨z162, c163, c164, c165, c166, hc171, h⟩ := k_b5_e h
                  refine g_callMIe_V (As := [.int 1, .int z161]) (rest := []) hC (mX4_set l dC dI cyI cyC cyO ad ob n0 n1 n2 n3 t0 t1 t2 t3 s0 aR ro r1 r2 r3 x0 x1 x2 x3 x4 c44 c45 c46 c47 c48 c49 c50 c51 c52 c53 c54 c55 c56 c57 c58 x_signs x_length x_position x_complete x_orders x_kinds x_numbers x_values 1 z161 hc171) q223 q224 q225 q8 q226 2 hdX4_set ⟨Nat.le_of_ble_eq_true rfl, Nat.le_of_ble_eq_true rfl⟩ ⟨Nat.le_of_ble_eq_true rfl, Nat.le_of_ble_eq_true rfl⟩ rfl rfl hl.1 (Nat.le_of_ble_eq_true rfl) hP hK hD (va_recv hK hP (ci := 3) (q0 := 0) rfl rfl) hS dL_law_171 hE (fun H locs hPn hk hS => ?_)
                  have hP : va_P (dC, dI) vwCl (wAll cyI cyC cyO ob n0 n1 n2 n3 t0 t1 t2 t3 s0 aR ro r1 r2 r3 x0 x1 x2 x3 x4 c44 c45 c163 c47 c48 c49 c50 c51 c52 c53 c54 c55 c164 c165 c166 x_signs x_length x_position x_complete x_orders x_kinds x_numbers x_values) H := hPn
                  have hD : va_D A (wAll cyI cyC cyO ob n0 n1 n2 n3 t0 t1 t2 t3 s0 aR ro r1 r2 r3 x0 x1 x2 x3 x4 c44 c45 c163 c47 c48 c49 c50 c51 c52 c53 c54 c55 c164 c165 c166 x_signs x_length x_position x_complete x_orders x_kinds x_numbers x_values) := k_Dm hD rfl
                  refine lv_iconst (v := 1) hx hb dL_law_174 (by decide) ?_
                  obtain ⟨K234, hK234, h⟩ := k_j5_e h
                  have J234 : ∀ (z167 : Int32) (c168 : Nat → Int32) (c169 : Nat → SV) (c170 : Int32) (c171 : Int32) (H : Heap) (locs : List Loc) (ls : Array Slot), K234 z167 c168 c169 c170 c171 = some 1 → va_P (dC, dI) vwCl (wAll cyI cyC cyO ob n0 n1 n2 n3 t0 t1 t2 t3 s0 aR ro r1 r2 r3 x0 x1 x2 x3 x4 c44 c45 c168 c47 c48 c49 c50 c51 c52 c53 c54 c55 c169 c170 c171 x_signs x_length x_position x_complete x_orders x_kinds x_numbers x_values) H → va_S A s.heap H locs → lv_has ls 13 [(0, .ref b), (1, .ref ob), (2, .int z6), (3, .int z43), (5, .int z61), (6, .int z62)] → W p l e room_1 s m #[Value.ref b] below meth c H locs 50 3400 Q (F0 m 234 ls [.int z167]) := by
                    intro z167 c168 c169 c170 c171 H locs ls h hP hS hl
                    have hD : va_D A (wAll cyI cyC cyO ob n0 n1 n2 n3 t0 t1 t2 t3 s0 aR ro r1 r2 r3 x0 x1 x2 x3 x4 c44 c45 c168 c47 c48 c49 c50 c51 c52 c53 c54 c55 c169 c170 c171 x_signs x_length x_position x_complete x_orders x_kinds x_numbers x_values) := k_Dm hD rfl
                    have h := k_a5 hK234 h
                    refine lv_istore (lv' := [(8, .int z167), (0, .ref b), (1, .ref ob), (2, .int z6), (3, .int z43), (5, .int z61), (6, .int z62)]) hx hb dL_law_234 hl (by decide) rfl (fun ls hl => ?_)
                    refine lv_goto (tgt := 494) hx hb dL_law_236 (by decide) ?_
                    exact J494 z167 c44 c45 c168 c47 c48 c49 c50 c51 c52 c53 c54 c55 c169 c170 c171 _ _ _ h hP hS (lv_sub hl [1, 2, 3, 4, 5, 6, 0] rfl)
                  refine g_icmp_lt (tgt := 233) hx hb dL_law_175 (by decide) h (fun h => ?_) (fun h => ?_)
                  · refine lv_iconst (v := 0) hx hb dL_law_233 (by decide) ?_
                    exact J234 0 c163 c164 c165 c166 _ _ _ h hP hS (lv_sub hl [0, 1, 2, 3, 4, 5] rfl)
                  · refine lv_aload_n hx hb dL_law_178 rfl (lv_at hl 1 rfl) ?_
                    refine lv_iconst (v := 2) hx hb dL_law_179 (by decide) ?_
                    refine lv_iconst (v := 1) hx hb dL_law_180 (by decide) ?_
                    refine lv_iload hx hb dL_law_181 (lv_at hl 4 rfl) ?_
                    refine lv_iconst (v := 2) hx hb dL_law_183 (by decide) ?_
                    refine g_ishr hx hb dL_law_184 h (fun z172 h => ?_)
                    refine lv_iconst (v := 3) hx hb dL_law_185 (by decide) ?_
                    obtain ⟨z173, hc186, h⟩ := k_b1_e h
                    refine g_callRI_S (As := [.int z172, .int 3]) (rest := [.int 1, .int 2, .ref ob]) hC (mL_low l dC dI cyI cyC cyO z172 3 hc186) q387 q388 q7 q389 2 hdL_low ⟨Nat.le_of_ble_eq_true rfl, Nat.le_of_ble_eq_true rfl⟩ ⟨Nat.le_of_ble_eq_true rfl, Nat.le_of_ble_eq_true rfl⟩ rfl rfl hl.1 (Nat.le_of_ble_eq_true rfl) va_P_nil hK hS dL_law_186 (fun H locs hk hS => ?_)
                    have hP := k_kept hP hk
                    refine g_iadd hx hb dL_law_189 h (fun z174 h => ?_)
                    obtain ⟨z175, c176, c177, c178, c179, hc190, h⟩ := k_b5_e h
                    refine g_callMIe_V (As := [.int 2, .int z174]) (rest := []) hC (mX4_set l dC dI cyI cyC cyO ad ob n0 n1 n2 n3 t0 t1 t2 t3 s0 aR ro r1 r2 r3 x0 x1 x2 x3 x4 c44 c45 c163 c47 c48 c49 c50 c51 c52 c53 c54 c55 c164 c165 c166 x_signs x_length x_position x_complete x_orders x_kinds x_numbers x_values 2 z174 hc190) q223 q224 q225 q8 q226 2 hdX4_set ⟨Nat.le_of_ble_eq_true rfl, Nat.le_of_ble_eq_true rfl⟩ ⟨Nat.le_of_ble_eq_true rfl, Nat.le_of_ble_eq_true rfl⟩ rfl rfl hl.1 (Nat.le_of_ble_eq_true rfl) hP hK hD (va_recv hK hP (ci := 3) (q0 := 0) rfl rfl) hS dL_law_190 hE (fun H locs hPn hk hS => ?_)
                    have hP : va_P (dC, dI) vwCl (wAll cyI cyC cyO ob n0 n1 n2 n3 t0 t1 t2 t3 s0 aR ro r1 r2 r3 x0 x1 x2 x3 x4 c44 c45 c176 c47 c48 c49 c50 c51 c52 c53 c54 c55 c177 c178 c179 x_signs x_length x_position x_complete x_orders x_kinds x_numbers x_values) H := hPn
                    have hD : va_D A (wAll cyI cyC cyO ob n0 n1 n2 n3 t0 t1 t2 t3 s0 aR ro r1 r2 r3 x0 x1 x2 x3 x4 c44 c45 c176 c47 c48 c49 c50 c51 c52 c53 c54 c55 c177 c178 c179 x_signs x_length x_position x_complete x_orders x_kinds x_numbers x_values) := k_Dm hD rfl
                    refine lv_iconst (v := 1) hx hb dL_law_193 (by decide) ?_
                    refine g_icmp_lt (tgt := 233) hx hb dL_law_194 (by decide) h (fun h => ?_) (fun h => ?_)
                    · refine lv_iconst (v := 0) hx hb dL_law_233 (by decide) ?_
                      exact J234 0 c176 c177 c178 c179 _ _ _ h hP hS (lv_sub hl [0, 1, 2, 3, 4, 5] rfl)
                    · refine lv_aload_n hx hb dL_law_197 rfl (lv_at hl 1 rfl) ?_
                      refine lv_iconst (v := 0) hx hb dL_law_198 (by decide) ?_
                      refine lv_iload hx hb dL_law_199 (lv_at hl 4 rfl) ?_
                      refine lv_iconst (v := 4) hx hb dL_law_201 (by decide) ?_
                      refine g_ishr hx hb dL_law_202 h (fun z180 h => ?_)
                      refine lv_iconst (v := 2) hx hb dL_law_203 (by decide) ?_
                      obtain ⟨z181, hc204, h⟩ := k_b1_e h
                      refine g_callRI_S (As := [.int z180, .int 2]) (rest := [.int 0, .ref ob]) hC (mL_low l dC dI cyI cyC cyO z180 2 hc204) q387 q388 q7 q389 2 hdL_low ⟨Nat.le_of_ble_eq_true rfl, Nat.le_of_ble_eq_true rfl⟩ ⟨Nat.le_of_ble_eq_true rfl, Nat.le_of_ble_eq_true rfl⟩ rfl rfl hl.1 (Nat.le_of_ble_eq_true rfl) va_P_nil hK hS dL_law_204 (fun H locs hk hS => ?_)
                      have hP := k_kept hP hk
                      obtain ⟨z182, c183, c184, c185, c186, hc207, h⟩ := k_b5_e h
                      refine g_callMIe_V (As := [.int 0, .int z181]) (rest := []) hC (mX4_set l dC dI cyI cyC cyO ad ob n0 n1 n2 n3 t0 t1 t2 t3 s0 aR ro r1 r2 r3 x0 x1 x2 x3 x4 c44 c45 c176 c47 c48 c49 c50 c51 c52 c53 c54 c55 c177 c178 c179 x_signs x_length x_position x_complete x_orders x_kinds x_numbers x_values 0 z181 hc207) q223 q224 q225 q8 q226 2 hdX4_set ⟨Nat.le_of_ble_eq_true rfl, Nat.le_of_ble_eq_true rfl⟩ ⟨Nat.le_of_ble_eq_true rfl, Nat.le_of_ble_eq_true rfl⟩ rfl rfl hl.1 (Nat.le_of_ble_eq_true rfl) hP hK hD (va_recv hK hP (ci := 3) (q0 := 0) rfl rfl) hS dL_law_207 hE (fun H locs hPn hk hS => ?_)
                      have hP : va_P (dC, dI) vwCl (wAll cyI cyC cyO ob n0 n1 n2 n3 t0 t1 t2 t3 s0 aR ro r1 r2 r3 x0 x1 x2 x3 x4 c44 c45 c183 c47 c48 c49 c50 c51 c52 c53 c54 c55 c184 c185 c186 x_signs x_length x_position x_complete x_orders x_kinds x_numbers x_values) H := hPn
                      have hD : va_D A (wAll cyI cyC cyO ob n0 n1 n2 n3 t0 t1 t2 t3 s0 aR ro r1 r2 r3 x0 x1 x2 x3 x4 c44 c45 c183 c47 c48 c49 c50 c51 c52 c53 c54 c55 c184 c185 c186 x_signs x_length x_position x_complete x_orders x_kinds x_numbers x_values) := k_Dm hD rfl
                      refine g_if_lt (tgt := 233) hx hb dL_law_210 (by decide) h (fun h => ?_) (fun h => ?_)
                      · refine lv_iconst (v := 0) hx hb dL_law_233 (by decide) ?_
                        exact J234 0 c183 c184 c185 c186 _ _ _ h hP hS (lv_sub hl [0, 1, 2, 3, 4, 5] rfl)
                      · refine lv_aload_n hx hb dL_law_213 rfl (lv_at hl 1 rfl) ?_
                        refine lv_iconst (v := 3) hx hb dL_law_214 (by decide) ?_
                        refine lv_iload hx hb dL_law_215 (lv_at hl 4 rfl) ?_
                        refine lv_iconst (v := 5) hx hb dL_law_217 (by decide) ?_
                        refine g_ishr hx hb dL_law_218 h (fun z187 h => ?_)
                        refine lv_iconst (v := 2) hx hb dL_law_219 (by decide) ?_
                        obtain ⟨z188, hc220, h⟩ := k_b1_e h
                        refine g_callRI_S (As := [.int z187, .int 2]) (rest := [.int 3, .ref ob]) hC (mL_low l dC dI cyI cyC cyO z187 2 hc220) q387 q388 q7 q389 2 hdL_low ⟨Nat.le_of_ble_eq_true rfl, Nat.le_of_ble_eq_true rfl⟩ ⟨Nat.le_of_ble_eq_true rfl, Nat.le_of_ble_eq_true rfl⟩ rfl rfl hl.1 (Nat.le_of_ble_eq_true rfl) va_P_nil hK hS dL_law_220 (fun H locs hk hS => ?_)
                        have hP := k_kept hP hk
                        obtain ⟨z189, c190, c191, c192, c193, hc223, h⟩ := k_b5_e h
                        refine g_callMIe_V (As := [.int 3, .int z188]) (rest := []) hC (mX4_set l dC dI cyI cyC cyO ad ob n0 n1 n2 n3 t0 t1 t2 t3 s0 aR ro r1 r2 r3 x0 x1 x2 x3 x4 c44 c45 c183 c47 c48 c49 c50 c51 c52 c53 c54 c55 c184 c185 c186 x_signs x_length x_position x_complete x_orders x_kinds x_numbers x_values 3 z188 hc223) q223 q224 q225 q8 q226 2 hdX4_set ⟨Nat.le_of_ble_eq_true rfl, Nat.le_of_ble_eq_true rfl⟩ ⟨Nat.le_of_ble_eq_true rfl, Nat.le_of_ble_eq_true rfl⟩ rfl rfl hl.1 (Nat.le_of_ble_eq_true rfl) hP hK hD (va_recv hK hP (ci := 3) (q0 := 0) rfl rfl) hS dL_law_223 hE (fun H locs hPn hk hS => ?_)
                        have hP : va_P (dC, dI) vwCl (wAll cyI cyC cyO ob n0 n1 n2 n3 t0 t1 t2 t3 s0 aR ro r1 r2 r3 x0 x1 x2 x3 x4 c44 c45 c190 c47 c48 c49 c50 c51 c52 c53 c54 c55 c191 c192 c193 x_signs x_length x_position x_complete x_orders x_kinds x_numbers x_values) H := hPn
                        have hD : va_D A (wAll cyI cyC cyO ob n0 n1 n2 n3 t0 t1 t2 t3 s0 aR ro r1 r2 r3 x0 x1 x2 x3 x4 c44 c45 c190 c47 c48 c49 c50 c51 c52 c53 c54 c55 c191 c192 c193 x_signs x_length x_position x_complete x_orders x_kinds x_numbers x_values) := k_Dm hD rfl
                        refine g_if_lt (tgt := 233) hx hb dL_law_226 (by decide) h (fun h => ?_) (fun h => ?_)
                        · refine lv_iconst (v := 0) hx hb dL_law_233 (by decide) ?_
                          exact J234 0 c190 c191 c192 c193 _ _ _ h hP hS (lv_sub hl [0, 1, 2, 3, 4, 5] rfl)
                        · refine lv_iconst (v := 1) hx hb dL_law_229 (by decide) ?_
                          refine lv_goto (tgt := 234) hx hb dL_law_230 (by decide) ?_
                          exact J234 1 c190 c191 c192 c193 _ _ _ h hP hS (lv_sub hl [0, 1, 2, 3, 4, 5] rfl)
                refine g_icmp_ne (tgt := 169) hx hb dL_law_162 (by decide) h (fun h => ?_) (fun h => ?_)
                · refine lv_iload hx hb dL_law_169 (lv_at hl 0 rfl) ?_
                  exact J171 z160 _ _ _ h hP hS (lv_sub hl [6, 7, 8, 9, 4, 3] rfl)
                · refine lv_iconst (v := 3) hx hb dL_law_165 (by decide) ?_
                  refine lv_goto (tgt := 171) hx hb dL_law_166 (by decide) ?_
                  exact J171 3 _ _ _ h hP hS (lv_sub hl [6, 7, 8, 9, 4, 3] rfl)
            · refine lv_aload_n hx hb dL_law_88 rfl (lv_at hl 6 rfl) ?_
              refine lv_bipush (v := 10) hx hb dL_law_89 (by decide) ?_
              obtain ⟨z194, hc91, h⟩ := k_b1_e h
              refine g_callRI_V (As := [.int 10]) (rest := []) hC (mX4_count l dC dI cyI cyC cyO ob n0 n1 n2 n3 t0 t1 t2 t3 s0 aR ro r1 r2 r3 x0 x1 x2 x3 x4 c44 c45 c46 c47 c48 c49 c50 c51 c52 c53 c54 c55 c56 c57 c58 x_signs x_length x_position x_complete x_orders x_kinds x_numbers x_values 10 hc91) q299 q300 q301 q8 q302 1 hdX4_count ⟨Nat.le_of_ble_eq_true rfl, Nat.le_of_ble_eq_true rfl⟩ ⟨Nat.le_of_ble_eq_true rfl, Nat.le_of_ble_eq_true rfl⟩ rfl rfl hl.1 (Nat.le_of_ble_eq_true rfl) hP hK (va_recv hK hP (ci := 3) (q0 := 0) rfl rfl) hS dL_law_91 (fun H locs hk hS => ?_)
              have hP := k_kept hP hk
              refine lv_iconst (v := (-1)) hx hb dL_law_94 (by decide) ?_
              obtain ⟨K136, hK136, h⟩ := k_j14_e h
              have J136 : ∀ (z195 : Int32) (c196 : Nat → Int32) (c197 : Nat → Int32) (c198 : Int32) (c199 : Int32) (c200 : Nat → Int32) (c201 : Nat → Int32) (c202 : Nat → Int32) (c203 : Int32) (c204 : Int32) (c205 : Int32) (c206 : Nat → SV) (c207 : Int32) (c208 : Int32) (H : Heap) (locs : List Loc) (ls : Array Slot), K136 z195 c196 c197 c198 c199 c200 c201 c202 c203 c204 c205 c206 c207 c208 = some 1 → va_P (dC, dI) vwCl (wAll cyI cyC cyO ob n0 n1 n2 n3 t0 t1 t2 t3 s0 aR ro r1 r2 r3 x0 x1 x2 x3 x4 c196 c197 c46 c47 c198 c199 c200 c201 c202 c203 c204 c205 c206 c207 c208 x_signs x_length x_position x_complete x_orders x_kinds x_numbers x_values) H → va_S A s.heap H locs → lv_has ls 13 [(0, .ref b), (1, .ref ob), (2, .int z6), (3, .int z43), (5, .int z61), (6, .int z62)] → W p l e room_1 s m #[Value.ref b] below meth c H locs 50 3400 Q (F0 m 136 ls [.int z195]) := by
                intro z195 c196 c197 c198 c199 c200 c201 c202 c203 c204 c205 c206 c207 c208 H locs ls h hP hS hl
                have hD : va_D A (wAll cyI cyC cyO ob n0 n1 n2 n3 t0 t1 t2 t3 s0 aR ro r1 r2 r3 x0 x1 x2 x3 x4 c196 c197 c46 c47 c198 c199 c200 c201 c202 c203 c204 c205 c206 c207 c208 x_signs x_length x_position x_complete x_orders x_kinds x_numbers x_values) := k_Dm hD rfl
                have h := k_a14 hK136 h
                refine lv_istore (lv' := [(8, .int z195), (0, .ref b), (1, .ref ob), (2, .int z6), (3, .int z43), (5, .int z61), (6, .int z62)]) hx hb dL_law_136 hl (by decide) rfl (fun ls hl => ?_)
                refine lv_goto (tgt := 494) hx hb dL_law_138 (by decide) ?_
                exact J494 z195 c196 c197 c46 c47 c198 c199 c200 c201 c202 c203 c204 c205 c206 c207 c208 _ _ _ h hP hS (lv_sub hl [1, 2, 3, 4, 5, 6, 0] rfl)
              refine g_icmp_ne (tgt := 117) hx hb dL_law_95 (by decide) h (fun h => ?_) (fun h => ?_)
              · refine lv_aload_n hx hb dL_law_117 rfl (lv_at hl 6 rfl) ?_
                refine lv_iload hx hb dL_law_118 (lv_at hl 3 rfl) ?_
                refine lv_iload_n hx hb dL_law_120 rfl (lv_at hl 7 rfl) ?_
                obtain ⟨z209, hc121, h⟩ := k_b1_e h
                refine g_callRI_S (As := [.int z61, .int z6]) (rest := [.ref ob]) hC (mL_low l dC dI cyI cyC cyO z61 z6 hc121) q387 q388 q7 q389 2 hdL_low ⟨Nat.le_of_ble_eq_true rfl, Nat.le_of_ble_eq_true rfl⟩ ⟨Nat.le_of_ble_eq_true rfl, Nat.le_of_ble_eq_true rfl⟩ rfl rfl hl.1 (Nat.le_of_ble_eq_true rfl) va_P_nil hK hS dL_law_121 (fun H locs hk hS => ?_)
                have hP := k_kept hP hk
                refine lv_iload hx hb dL_law_124 (lv_at hl 3 rfl) ?_
                refine lv_iconst (v := 3) hx hb dL_law_126 (by decide) ?_
                refine g_ishr hx hb dL_law_127 h (fun z210 h => ?_)
                refine lv_bipush (v := 64) hx hb dL_law_128 (by decide) ?_
                obtain ⟨z211, hc130, h⟩ := k_b1_e h
                refine g_callRI_S (As := [.int z210, .int 64]) (rest := [.int z209, .ref ob]) hC (mL_low l dC dI cyI cyC cyO z210 64 hc130) q387 q388 q7 q389 2 hdL_low ⟨Nat.le_of_ble_eq_true rfl, Nat.le_of_ble_eq_true rfl⟩ ⟨Nat.le_of_ble_eq_true rfl, Nat.le_of_ble_eq_true rfl⟩ rfl rfl hl.1 (Nat.le_of_ble_eq_true rfl) va_P_nil hK hS dL_law_130 (fun H locs hk hS => ?_)
                have hP := k_kept hP hk
                obtain ⟨z212, c213, c214, c215, c216, c217, c218, c219, c220, c221, c222, c223, c224, c225, hc133, h⟩ := k_b14_e h
                refine g_callMI_S (As := [.ref ob, .int z209, .int z211]) (rest := []) hC (mL_put l dC dI cyI cyC cyO ob n0 n1 n2 n3 t0 t1 t2 t3 s0 aR ro r1 r2 r3 x0 x1 x2 x3 x4 c44 c45 c46 c47 c48 c49 c50 c51 c52 c53 c54 c55 c56 c57 c58 x_signs x_length x_position x_complete x_orders x_kinds x_numbers x_values z209 z211 hc133) q391 q392 q7 q393 3 hdL_put ⟨Nat.le_of_ble_eq_true rfl, Nat.le_of_ble_eq_true rfl⟩ ⟨Nat.le_of_ble_eq_true rfl, Nat.le_of_ble_eq_true rfl⟩ rfl rfl hl.1 (Nat.le_of_ble_eq_true rfl) hP hK hD hS dL_law_133 (fun H locs hPn hk hS => ?_)
                have hP : va_P (dC, dI) vwCl (wAll cyI cyC cyO ob n0 n1 n2 n3 t0 t1 t2 t3 s0 aR ro r1 r2 r3 x0 x1 x2 x3 x4 c213 c214 c46 c47 c215 c216 c217 c218 c219 c220 c221 c222 c223 c224 c225 x_signs x_length x_position x_complete x_orders x_kinds x_numbers x_values) H := hPn
                have hD : va_D A (wAll cyI cyC cyO ob n0 n1 n2 n3 t0 t1 t2 t3 s0 aR ro r1 r2 r3 x0 x1 x2 x3 x4 c213 c214 c46 c47 c215 c216 c217 c218 c219 c220 c221 c222 c223 c224 c225 x_signs x_length x_position x_complete x_orders x_kinds x_numbers x_values) := k_Dm hD rfl
                exact J136 z212 c213 c214 c215 c216 c217 c218 c219 c220 c221 c222 c223 c224 c225 _ _ _ h hP hS (lv_sub hl [5, 6, 7, 8, 3, 2] rfl)
              · refine lv_aload_n hx hb dL_law_98 rfl (lv_at hl 6 rfl) ?_
                refine lv_iconst (v := 1) hx hb dL_law_99 (by decide) ?_
                refine lv_iconst (v := 1) hx hb dL_law_100 (by decide) ?_
                refine lv_iconst (v := 0) hx hb dL_law_101 (by decide) ?_
                obtain ⟨z226, c227, c228, c229, c230, c231, c232, hc102, h⟩ := k_b7_e h
                refine g_callMI_V (As := [.int 1, .int 1, .int 0]) (rest := []) hC (mX4_ifPut l dC dI cyI cyC cyO ob n0 n1 n2 n3 t0 t1 t2 t3 s0 aR ro r1 r2 r3 x0 x1 x2 x3 x4 c44 c45 c46 c47 c48 c49 c50 c51 c52 c53 c54 c55 c56 c57 c58 x_signs x_length x_position x_complete x_orders x_kinds x_numbers x_values 1 1 0 hc102) q331 q332 q333 q8 q334 3 hdX4_ifPut ⟨Nat.le_of_ble_eq_true rfl, Nat.le_of_ble_eq_true rfl⟩ ⟨Nat.le_of_ble_eq_true rfl, Nat.le_of_ble_eq_true rfl⟩ rfl rfl hl.1 (Nat.le_of_ble_eq_true rfl) hP hK hD (va_recv hK hP (ci := 3) (q0 := 0) rfl rfl) hS dL_law_102 (fun H locs hPn hk hS => ?_)
                have hP : va_P (dC, dI) vwCl (wAll cyI cyC cyO ob n0 n1 n2 n3 t0 t1 t2 t3 s0 aR ro r1 r2 r3 x0 x1 x2 x3 x4 c44 c45 c46 c47 c48 c49 c227 c228 c229 c230 c231 c232 c56 c57 c58 x_signs x_length x_position x_complete x_orders x_kinds x_numbers x_values) H := hPn
                have hD : va_D A (wAll cyI cyC cyO ob n0 n1 n2 n3 t0 t1 t2 t3 s0 aR ro r1 r2 r3 x0 x1 x2 x3 x4 c44 c45 c46 c47 c48 c49 c227 c228 c229 c230 c231 c232 c56 c57 c58 x_signs x_length x_position x_complete x_orders x_kinds x_numbers x_values) := k_Dm hD rfl
                refine lv_iconst (v := (-1)) hx hb dL_law_105 (by decide) ?_
                refine g_icmp_ne (tgt := 113) hx hb dL_law_106 (by decide) h (fun h => ?_) (fun h => ?_)
                · refine lv_iconst (v := 0) hx hb dL_law_113 (by decide) ?_
                  refine lv_goto (tgt := 136) hx hb dL_law_114 (by decide) ?_
                  exact J136 0 c44 c45 c48 c49 c227 c228 c229 c230 c231 c232 c56 c57 c58 _ _ _ h hP hS (lv_sub hl [5, 6, 7, 8, 3, 2] rfl)
                · refine lv_iconst (v := 1) hx hb dL_law_109 (by decide) ?_
                  refine lv_goto (tgt := 136) hx hb dL_law_110 (by decide) ?_
                  exact J136 1 c44 c45 c48 c49 c227 c228 c229 c230 c231 c232 c56 c57 c58 _ _ _ h hP hS (lv_sub hl [5, 6, 7, 8, 3, 2] rfl)
      exact L40 5000 0 n_ones n_twos n_settings n_tick n_energy n_valuesPut t_ones t_twos t_settings t_tick t_energy t_valuesPut s_ring s_oldest s_count _ _ _ h hP hS (lv_sub hl [2, 3, 1, 0] rfl)
    · refine lv_iconst (v := 0) hx hb dL_law_24 (by decide) ?_
      exact (k_01 h).elim
