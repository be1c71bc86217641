/-! the loop's body: the switch, and what goes on behind it -/
def lw_F (rec40 : Int32 → (Nat → Int32) → (Nat → Int32) → (Nat → Int32) → Int32 → Int32 → Int32 → (Nat → Int32) → (Nat → Int32) → (Nat → Int32) → Int32 → Int32 → Int32 → (Nat → SV) → Int32 → Int32 → Option (Int32)) (z43 z61 z62 : Int32) : Int32 → (Nat → Int32) → (Nat → Int32) → (Nat → Int32) → Int32 → Int32 → Int32 → (Nat → Int32) → (Nat → Int32) → (Nat → Int32) → Int32 → Int32 → Int32 → (Nat → SV) → Int32 → Int32 → Option Int32 :=
  fun (z64 : Int32) (c65 : Nat → Int32) (c66 : Nat → Int32) (c67 : Nat → Int32) (c68 : Int32) (c69 : Int32) (c70 : Int32) (c71 : Nat → Int32) (c72 : Nat → Int32) (c73 : Nat → Int32) (c74 : Int32) (c75 : Int32) (c76 : Int32) (c77 : Nat → SV) (c78 : Int32) (c79 : Int32) =>
      k_if (z64 = 0)
      (
        some 0)
      (
        k_b1 (fL_addUp c65 c66 c67 c68 c69 c70 c79) fun (z80 : Int32) =>
        k_if (z80 = 0)
        (
          some 0)
        (
          k_b10 (fL_isSealed c65 c66 c67 c68 c69 c70 c77 c78 c79 z62 z61) fun (z81 : Int32) (c82 : Nat → Int32) (c83 : Nat → Int32) (c84 : Nat → Int32) (c85 : Int32) (c86 : Int32) (c87 : Int32) (c88 : Nat → SV) (c89 : Int32) (c90 : Int32) =>
          k_if (z81 = 0)
          (
            some 0)
          (
            k_let (z43 + 1) fun (z91 : Int32) =>
            rec40 z91 c82 c83 c84 c85 c86 c87 c71 c72 c73 c74 c75 c76 c88 c89 c90)))
def lw_G (z6 z61 z62 z63 : Int32) (c44 : Nat → Int32) (c45 : Nat → Int32) (c46 : Nat → Int32) (c47 : Int32) (c48 : Int32) (c49 : Int32) (c50 : Nat → Int32) (c51 : Nat → Int32) (c52 : Nat → Int32) (c53 : Int32) (c54 : Int32) (c55 : Int32) (c56 : Nat → SV) (c57 : Int32) (c58 : Int32) (K494 : Int32 → (Nat → Int32) → (Nat → Int32) → (Nat → Int32) → Int32 → Int32 → Int32 → (Nat → Int32) → (Nat → Int32) → (Nat → Int32) → Int32 → Int32 → Int32 → (Nat → SV) → Int32 → Int32 → Option Int32) : Option Int32 :=
    k_if (5 ≤ z63)
    (
      k_if (z63 = 5)
      (
        k_b1 (fL_low z61 3) fun (z159 : Int32) =>
        k_let (2 + z159) fun (z160 : Int32) =>
        k_j1
        (fun (z161 : Int32) =>
          k_b5 (fX4_set c44 c45 c46 c47 c48 c49 c56 c57 c58 1 z161) fun (z162 : Int32) (c163 : Nat → Int32) (c164 : Nat → SV) (c165 : Int32) (c166 : Int32) =>
          k_j5
          (fun (z167 : Int32) (c168 : Nat → Int32) (c169 : Nat → SV) (c170 : Int32) (c171 : Int32) =>
            K494 z167 c44 c45 c168 c47 c48 c49 c50 c51 c52 c53 c54 c55 c169 c170 c171)
          (fun K234 =>
          k_if (z162 < 1)
          (
            K234 0 c163 c164 c165 c166)
          (
            k_let (z61 >>> (2 &&& 31)) fun (z172 : Int32) =>
            k_b1 (fL_low z172 3) fun (z173 : Int32) =>
            k_let (1 + z173) fun (z174 : Int32) =>
            k_b5 (fX4_set c44 c45 c163 c47 c48 c49 c164 c165 c166 2 z174) fun (z175 : Int32) (c176 : Nat → Int32) (c177 : Nat → SV) (c178 : Int32) (c179 : Int32) =>
            k_if (z175 < 1)
            (
              K234 0 c176 c177 c178 c179)
            (
              k_let (z61 >>> (4 &&& 31)) fun (z180 : Int32) =>
              k_b1 (fL_low z180 2) fun (z181 : Int32) =>
              k_b5 (fX4_set c44 c45 c176 c47 c48 c49 c177 c178 c179 0 z181) fun (z182 : Int32) (c183 : Nat → Int32) (c184 : Nat → SV) (c185 : Int32) (c186 : Int32) =>
              k_if (z182 < 0)
              (
                K234 0 c183 c184 c185 c186)
              (
                k_let (z61 >>> (5 &&& 31)) fun (z187 : Int32) =>
                k_b1 (fL_low z187 2) fun (z188 : Int32) =>
                k_b5 (fX4_set c44 c45 c183 c47 c48 c49 c184 c185 c186 3 z188) fun (z189 : Int32) (c190 : Nat → Int32) (c191 : Nat → SV) (c192 : Int32) (c193 : Int32) =>
                k_if (z189 < 0)
                (
                  K234 0 c190 c191 c192 c193)
                (
                  K234 1 c190 c191 c192 c193))))))
        (fun K171 =>
        k_if (z160 = 4)
        (
          K171 3)
        (
          K171 z160)))
      (
        k_if (z63 = 6)
        (
          k_b1 (fX4_row c44 c45 c46 c47 z62 7) fun (z144 : Int32) =>
          k_j7
          (fun (z145 : Int32) (c146 : Nat → Int32) (c147 : Nat → Int32) (c148 : Int32) (c149 : Nat → SV) (c150 : Int32) (c151 : Int32) =>
            K494 z145 c146 c147 c46 c47 c148 c49 c50 c51 c52 c53 c54 c55 c149 c150 c151)
          (fun K272 =>
          k_if (z144 = 1)
          (
            K272 1 c44 c45 c48 c56 c57 c58)
          (
            k_b7 (fL_refresh c44 c45 c46 c47 c48 c49 c56 c57 c58 z62) fun (z152 : Int32) (c153 : Nat → Int32) (c154 : Nat → Int32) (c155 : Int32) (c156 : Nat → SV) (c157 : Int32) (c158 : Int32) =>
            k_if (z152 = 0)
            (
              K272 0 c153 c154 c155 c156 c157 c158)
            (
              K272 1 c153 c154 c155 c156 c157 c158))))
        (
          k_if (z63 = 7)
          (
            k_b1 (fL_low z61 9) fun (z130 : Int32) =>
            k_let (1 + z130) fun (z131 : Int32) =>
            k_b12 (fL_heat c44 c45 c46 c47 c48 c49 c50 c51 c52 c53 c54 c55 c56 c57 c58 z131) fun (z132 : Int32) (c133 : Nat → Int32) (c134 : Nat → Int32) (c135 : Nat → Int32) (c136 : Nat → Int32) (c137 : Nat → Int32) (c138 : Int32) (c139 : Int32) (c140 : Int32) (c141 : Nat → SV) (c142 : Int32) (c143 : Int32) =>
            K494 z132 c133 c134 c46 c47 c48 c49 c135 c136 c137 c138 c139 c140 c141 c142 c143)
          (
            k_if (z63 = 8)
            (
              k_b1 (fX4_count c44 c45 c46 c47 c48 c49 c58 0) fun (z118 : Int32) =>
              k_b1 (fL_low z61 5) fun (z119 : Int32) =>
              k_let (1 + z119) fun (z120 : Int32) =>
              k_b5 (fX4_pass c44 c45 c46 c47 c48 c49 c56 c57 c58 z120) fun (z121 : Int32) (c122 : Int32) (c123 : Nat → SV) (c124 : Int32) (c125 : Int32) =>
              k_let (z118 + 1) fun (z126 : Int32) =>
              k_b1 (fL_low z61 5) fun (z127 : Int32) =>
              k_let (z126 + z127) fun (z128 : Int32) =>
              k_j1
              (fun (z129 : Int32) =>
                K494 z129 c44 c45 c46 c122 c48 c49 c50 c51 c52 c53 c54 c55 c123 c124 c125)
              (fun K347 =>
              k_if (z121 = z128)
              (
                K347 1)
              (
                K347 0)))
            (
              k_if (z63 = 9)
              (
                k_b1 (fL_low z61 z6) fun (z106 : Int32) =>
                k_b1 (fX4_key c44 c45 c46 c47 z106 2) fun (z107 : Int32) =>
                k_b1 (fX4_count c44 c45 c46 c47 c48 c49 c58 6) fun (z108 : Int32) =>
                k_b7 (fX4_drop c44 c45 c46 c47 c48 c49 c56 c57 c58 z106) fun (z109 : Int32) (c110 : Nat → Int32) (c111 : Nat → Int32) (c112 : Int32) (c113 : Nat → SV) (c114 : Int32) (c115 : Int32) =>
                k_j1
                (fun (z116 : Int32) =>
                  K494 z116 c110 c111 c46 c47 c112 c49 c50 c51 c52 c53 c54 c55 c113 c114 c115)
                (fun K427 =>
                k_if (z107 < z109)
                (
                  K427 0)
                (
                  k_if (0 < z108)
                  (
                    K427 1)
                  (
                    k_if (z109 = z107)
                    (
                      k_b1 (fX4_key c110 c111 c46 c47 z106 0) fun (z117 : Int32) =>
                      k_if (z117 = ((-1)))
                      (
                        K427 1)
                      (
                        K427 0))
                    (
                      K427 0)))))
              (
                k_let (z61 >>> (5 &&& 31)) fun (z92 : Int32) =>
                k_b1 (fL_low z92 4) fun (z93 : Int32) =>
                k_if (z93 = 0)
                (
                  k_b1 (fX4_row c44 c45 c46 c47 z62 7) fun (z94 : Int32) =>
                  k_if (z94 = 0)
                  (
                    k_b1 (fX4_count c44 c45 c46 c47 c48 c49 c58 6) fun (z95 : Int32) =>
                    k_b7 (fX4_lock c44 c45 c46 c47 c48 c49 c56 c57 c58 z62) fun (z96 : Int32) (c97 : Nat → Int32) (c98 : Nat → Int32) (c99 : Int32) (c100 : Nat → SV) (c101 : Int32) (c102 : Int32) =>
                    k_let (z95 + 1) fun (z103 : Int32) =>
                    k_j1
                    (fun (z104 : Int32) =>
                      K494 z104 c97 c98 c46 c47 c99 c49 c50 c51 c52 c53 c54 c55 c100 c101 c102)
                    (fun K492 =>
                    k_if (z96 = z103)
                    (
                      k_b1 (fX4_row c97 c98 c46 c47 z62 7) fun (z105 : Int32) =>
                      k_if (z105 = 1)
                      (
                        K492 1)
                      (
                        K492 0))
                    (
                      K492 0)))
                  (
                    K494 1 c44 c45 c46 c47 c48 c49 c50 c51 c52 c53 c54 c55 c56 c57 c58))
                (
                  K494 1 c44 c45 c46 c47 c48 c49 c50 c51 c52 c53 c54 c55 c56 c57 c58)))))))
    (
      k_b1 (fX4_count c44 c45 c46 c47 c48 c49 c58 10) fun (z194 : Int32) =>
      k_j14
      (fun (z195 : Int32) (c196 : Nat → Int32) (c197 : Nat → Int32) (c198 : Int32) (c199 : Int32) (c200 : Nat → Int32) (c201 : Nat → Int32) (c202 : Nat → Int32) (c203 : Int32) (c204 : Int32) (c205 : Int32) (c206 : Nat → SV) (c207 : Int32) (c208 : Int32) =>
        K494 z195 c196 c197 c46 c47 c198 c199 c200 c201 c202 c203 c204 c205 c206 c207 c208)
      (fun K136 =>
      k_if (z194 = ((-1)))
      (
        k_b7 (fX4_ifPut c44 c45 c46 c47 c48 c49 c50 c51 c52 c53 c54 c55 1 1 0) fun (z226 : Int32) (c227 : Nat → Int32) (c228 : Nat → Int32) (c229 : Nat → Int32) (c230 : Int32) (c231 : Int32) (c232 : Int32) =>
        k_if (z226 = ((-1)))
        (
          K136 1 c44 c45 c48 c49 c227 c228 c229 c230 c231 c232 c56 c57 c58)
        (
          K136 0 c44 c45 c48 c49 c227 c228 c229 c230 c231 c232 c56 c57 c58))
      (
        k_b1 (fL_low z61 z6) fun (z209 : Int32) =>
        k_let (z61 >>> (3 &&& 31)) fun (z210 : Int32) =>
        k_b1 (fL_low z210 64) fun (z211 : Int32) =>
        k_b14 (fL_put c44 c45 c46 c47 c48 c49 c50 c51 c52 c53 c54 c55 c56 c57 c58 z209 z211) fun (z212 : Int32) (c213 : Nat → Int32) (c214 : Nat → Int32) (c215 : Int32) (c216 : Int32) (c217 : Nat → Int32) (c218 : Nat → Int32) (c219 : Nat → Int32) (c220 : Int32) (c221 : Int32) (c222 : Int32) (c223 : Nat → SV) (c224 : Int32) (c225 : Int32) =>
        K136 z212 c213 c214 c215 c216 c217 c218 c219 c220 c221 c222 c223 c224 c225)))
theorem s40_eq (K525 : (Nat → Int32) → (Nat → Int32) → (Nat → Int32) → Int32 → Int32 → Int32 → (Nat → Int32) → (Nat → Int32) → (Nat → Int32) → Int32 → Int32 → Int32 → (Nat → SV) → Int32 → Int32 → Option (Int32)) (sL : Nat) (xs : Nat → Int32) (z6 : Int32) (rec40 : Int32 → (Nat → Int32) → (Nat → Int32) → (Nat → Int32) → Int32 → Int32 → Int32 → (Nat → Int32) → (Nat → Int32) → (Nat → Int32) → Int32 → Int32 → Int32 → (Nat → SV) → Int32 → Int32 → Option (Int32)) (z43 : Int32) (c44 : Nat → Int32) (c45 : Nat → Int32) (c46 : Nat → Int32) (c47 : Int32) (c48 : Int32) (c49 : Int32) (c50 : Nat → Int32) (c51 : Nat → Int32) (c52 : Nat → Int32) (c53 : Int32) (c54 : Int32) (c55 : Int32) (c56 : Nat → SV) (c57 : Int32) (c58 : Int32) : fL_law_s40 K525 sL xs z6 rec40 z43 c44 c45 c46 c47 c48 c49 c50 c51 c52 c53 c54 c55 c56 c57 c58 = k_if (26 ≤ z43) (K525 c44 c45 c46 c47 c48 c49 c50 c51 c52 c53 c54 c55 c56 c57 c58) (k_let (1 + z43) fun (z59 : Int32) => k_b1 (fL_cell sL xs z59) fun (z60 : Int32) => k_let (z60 >>> (4 &&& 31)) fun (z61 : Int32) => k_b1 (fL_low z61 20) fun (z62 : Int32) => k_b1 (fL_low z60 11) fun (z63 : Int32) => lw_G z6 z61 z62 z63 c44 c45 c46 c47 c48 c49 c50 c51 c52 c53 c54 c55 c56 c57 c58 (lw_F rec40 z43 z61 z62)) := Eq.trans rfl rfl
