theorem cs_0 {p : Program} {l : Launch} {e : Env} {s : State} {m : MethodId} {args : Array Value} {below : List Frame} {meth : Method} {c : Code} {g : gx_T} {Q : State → Prop} {σ : sx_T} {b t bS : Nat} {xs : Nat → Int32} (hlt : l.stackTraces = false) (B : zx_B p s m args meth c code RL 8 g) (hX : va_X bS 6 xs s s.heap) (hbl : bS < s.heap.size) (hbA : ¬ gx_b g ≤ bS) (hF : fz_P b t σ) (kk : ∀ σ', zx p l e room_1 s m args below meth c g 8 600002 7302232 Q σ' 1395 [(4, .int 0), (0, .ref bS)] []) : zx p l e room_1 s m args below meth c g 8 500 100000 Q σ 148 [(4, .int 0), (3, .ref (b + 431)), (2, .ref (b + 405)), (1, .ref (b + 0)), (0, .ref bS)] [] := by
  have b1 := Int32.le_toInt (xs 1)
  have c1 := Int32.toInt_lt (xs 1)
  have b2 := Int32.le_toInt (xs 2)
  have c2 := Int32.toInt_lt (xs 2)
  have b3 := Int32.le_toInt (xs 3)
  have c3 := Int32.toInt_lt (xs 3)
  have b4 := Int32.le_toInt (xs 4)
  have c4 := Int32.toInt_lt (xs 4)
  have b5 := Int32.le_toInt (xs 5)
  have c5 := Int32.toInt_lt (xs 5)
  by_cases h1 : (xs 1).toInt < (0 : Int)
  · by_cases h2 : (xs 3).toInt < (0 : Int)
    · exact lf_0_0 hlt B hX hbl hbA hF rfl (by omega) (by omega) rfl (by omega) (by omega) rfl (by omega) (by omega) rfl (by omega) (by omega) rfl (by omega) (by omega) kk
    · by_cases h3 : (xs 3).toInt < (18 : Int)
      · by_cases h4 : (xs 4).toInt < (0 : Int)
        · exact lf_0_1 hlt B hX hbl hbA hF rfl (by omega) (by omega) rfl (by omega) (by omega) rfl (by omega) (by omega) rfl (by omega) (by omega) rfl (by omega) (by omega) kk
        · by_cases h5 : (xs 4).toInt < (100 : Int)
          · by_cases h6 : (xs 5).toInt < (0 : Int)
            · exact lf_0_2 hlt B hX hbl hbA hF rfl (by omega) (by omega) rfl (by omega) (by omega) rfl (by omega) (by omega) rfl (by omega) (by omega) rfl (by omega) (by omega) kk
            · by_cases h7 : (xs 5).toInt < (100 : Int)
              · exact lf_0_3 hlt B hX hbl hbA hF rfl (by omega) (by omega) rfl (by omega) (by omega) rfl (by omega) (by omega) rfl (by omega) (by omega) rfl (by omega) (by omega) kk
              · exact lf_0_4 hlt B hX hbl hbA hF rfl (by omega) (by omega) rfl (by omega) (by omega) rfl (by omega) (by omega) rfl (by omega) (by omega) rfl (by omega) (by omega) kk
          · exact lf_0_5 hlt B hX hbl hbA hF rfl (by omega) (by omega) rfl (by omega) (by omega) rfl (by omega) (by omega) rfl (by omega) (by omega) rfl (by omega) (by omega) kk
      · exact lf_0_6 hlt B hX hbl hbA hF rfl (by omega) (by omega) rfl (by omega) (by omega) rfl (by omega) (by omega) rfl (by omega) (by omega) rfl (by omega) (by omega) kk
  · by_cases h2 : (xs 1).toInt < (6 : Int)
    · by_cases h3 : (xs 1).toInt < (1 : Int)
      · by_cases h4 : (xs 2).toInt < (0 : Int)
        · by_cases h5 : (xs 3).toInt < (0 : Int)
          · exact lf_0_7 hlt B hX hbl hbA hF (eq_of_iv (n := 0) rfl (by omega) (by omega)) rfl (by omega) (by omega) rfl (by omega) (by omega) rfl (by omega) (by omega) rfl (by omega) (by omega) kk
          · by_cases h6 : (xs 3).toInt < (18 : Int)
            · by_cases h7 : (xs 4).toInt < (0 : Int)
              · exact lf_0_8 hlt B hX hbl hbA hF (eq_of_iv (n := 0) rfl (by omega) (by omega)) rfl (by omega) (by omega) rfl (by omega) (by omega) rfl (by omega) (by omega) rfl (by omega) (by omega) kk
              · by_cases h8 : (xs 4).toInt < (100 : Int)
                · by_cases h9 : (xs 5).toInt < (0 : Int)
                  · exact lf_0_9 hlt B hX hbl hbA hF (eq_of_iv (n := 0) rfl (by omega) (by omega)) rfl (by omega) (by omega) rfl (by omega) (by omega) rfl (by omega) (by omega) rfl (by omega) (by omega) kk
                  · by_cases h10 : (xs 5).toInt < (100 : Int)
                    · exact lf_0_10 hlt B hX hbl hbA hF (eq_of_iv (n := 0) rfl (by omega) (by omega)) rfl (by omega) (by omega) rfl (by omega) (by omega) rfl (by omega) (by omega) rfl (by omega) (by omega) kk
                    · exact lf_0_11 hlt B hX hbl hbA hF (eq_of_iv (n := 0) rfl (by omega) (by omega)) rfl (by omega) (by omega) rfl (by omega) (by omega) rfl (by omega) (by omega) rfl (by omega) (by omega) kk
                · exact lf_0_12 hlt B hX hbl hbA hF (eq_of_iv (n := 0) rfl (by omega) (by omega)) rfl (by omega) (by omega) rfl (by omega) (by omega) rfl (by omega) (by omega) rfl (by omega) (by omega) kk
            · exact lf_0_13 hlt B hX hbl hbA hF (eq_of_iv (n := 0) rfl (by omega) (by omega)) rfl (by omega) (by omega) rfl (by omega) (by omega) rfl (by omega) (by omega) rfl (by omega) (by omega) kk
        · by_cases h5 : (xs 2).toInt < (20 : Int)
          · by_cases h6 : (xs 3).toInt < (0 : Int)
            · exact lf_0_14 hlt B hX hbl hbA hF (eq_of_iv (n := 0) rfl (by omega) (by omega)) rfl (by omega) (by omega) rfl (by omega) (by omega) rfl (by omega) (by omega) rfl (by omega) (by omega) kk
            · by_cases h7 : (xs 3).toInt < (18 : Int)
              · by_cases h8 : (xs 4).toInt < (0 : Int)
                · exact lf_0_15 hlt B hX hbl hbA hF (eq_of_iv (n := 0) rfl (by omega) (by omega)) rfl (by omega) (by omega) rfl (by omega) (by omega) rfl (by omega) (by omega) rfl (by omega) (by omega) kk
                · by_cases h9 : (xs 4).toInt < (100 : Int)
                  · by_cases h10 : (xs 5).toInt < (0 : Int)
                    · exact lf_0_16 hlt B hX hbl hbA hF (eq_of_iv (n := 0) rfl (by omega) (by omega)) rfl (by omega) (by omega) rfl (by omega) (by omega) rfl (by omega) (by omega) rfl (by omega) (by omega) kk
                    · by_cases h11 : (xs 5).toInt < (100 : Int)
                      · exact lf_0_17 hlt B hX hbl hbA hF (eq_of_iv (n := 0) rfl (by omega) (by omega)) rfl (by omega) (by omega) rfl (by omega) (by omega) rfl (by omega) (by omega) rfl (by omega) (by omega) kk
                      · exact lf_0_18 hlt B hX hbl hbA hF (eq_of_iv (n := 0) rfl (by omega) (by omega)) rfl (by omega) (by omega) rfl (by omega) (by omega) rfl (by omega) (by omega) rfl (by omega) (by omega) kk
                  · exact lf_0_19 hlt B hX hbl hbA hF (eq_of_iv (n := 0) rfl (by omega) (by omega)) rfl (by omega) (by omega) rfl (by omega) (by omega) rfl (by omega) (by omega) rfl (by omega) (by omega) kk
              · exact lf_0_20 hlt B hX hbl hbA hF (eq_of_iv (n := 0) rfl (by omega) (by omega)) rfl (by omega) (by omega) rfl (by omega) (by omega) rfl (by omega) (by omega) rfl (by omega) (by omega) kk
          · by_cases h6 : (xs 3).toInt < (0 : Int)
            · exact lf_0_21 hlt B hX hbl hbA hF (eq_of_iv (n := 0) rfl (by omega) (by omega)) rfl (by omega) (by omega) rfl (by omega) (by omega) rfl (by omega) (by omega) rfl (by omega) (by omega) kk
            · by_cases h7 : (xs 3).toInt < (18 : Int)
              · by_cases h8 : (xs 4).toInt < (0 : Int)
                · exact lf_0_22 hlt B hX hbl hbA hF (eq_of_iv (n := 0) rfl (by omega) (by omega)) rfl (by omega) (by omega) rfl (by omega) (by omega) rfl (by omega) (by omega) rfl (by omega) (by omega) kk
                · by_cases h9 : (xs 4).toInt < (100 : Int)
                  · by_cases h10 : (xs 5).toInt < (0 : Int)
                    · exact lf_0_23 hlt B hX hbl hbA hF (eq_of_iv (n := 0) rfl (by omega) (by omega)) rfl (by omega) (by omega) rfl (by omega) (by omega) rfl (by omega) (by omega) rfl (by omega) (by omega) kk
                    · by_cases h11 : (xs 5).toInt < (100 : Int)
                      · exact lf_0_24 hlt B hX hbl hbA hF (eq_of_iv (n := 0) rfl (by omega) (by omega)) rfl (by omega) (by omega) rfl (by omega) (by omega) rfl (by omega) (by omega) rfl (by omega) (by omega) kk
                      · exact lf_0_25 hlt B hX hbl hbA hF (eq_of_iv (n := 0) rfl (by omega) (by omega)) rfl (by omega) (by omega) rfl (by omega) (by omega) rfl (by omega) (by omega) rfl (by omega) (by omega) kk
                  · exact lf_0_26 hlt B hX hbl hbA hF (eq_of_iv (n := 0) rfl (by omega) (by omega)) rfl (by omega) (by omega) rfl (by omega) (by omega) rfl (by omega) (by omega) rfl (by omega) (by omega) kk
              · exact lf_0_27 hlt B hX hbl hbA hF (eq_of_iv (n := 0) rfl (by omega) (by omega)) rfl (by omega) (by omega) rfl (by omega) (by omega) rfl (by omega) (by omega) rfl (by omega) (by omega) kk
      · by_cases h4 : (xs 1).toInt < (2 : Int)
        · by_cases h5 : (xs 2).toInt < (0 : Int)
          · by_cases h6 : (xs 3).toInt < (0 : Int)
            · exact lf_0_28 hlt B hX hbl hbA hF (eq_of_iv (n := 1) rfl (by omega) (by omega)) rfl (by omega) (by omega) rfl (by omega) (by omega) rfl (by omega) (by omega) rfl (by omega) (by omega) kk
            · by_cases h7 : (xs 3).toInt < (18 : Int)
              · by_cases h8 : (xs 4).toInt < (0 : Int)
                · exact lf_0_29 hlt B hX hbl hbA hF (eq_of_iv (n := 1) rfl (by omega) (by omega)) rfl (by omega) (by omega) rfl (by omega) (by omega) rfl (by omega) (by omega) rfl (by omega) (by omega) kk
                · by_cases h9 : (xs 4).toInt < (100 : Int)
                  · by_cases h10 : (xs 5).toInt < (0 : Int)
                    · exact lf_0_30 hlt B hX hbl hbA hF (eq_of_iv (n := 1) rfl (by omega) (by omega)) rfl (by omega) (by omega) rfl (by omega) (by omega) rfl (by omega) (by omega) rfl (by omega) (by omega) kk
                    · by_cases h11 : (xs 5).toInt < (100 : Int)
                      · exact lf_0_31 hlt B hX hbl hbA hF (eq_of_iv (n := 1) rfl (by omega) (by omega)) rfl (by omega) (by omega) rfl (by omega) (by omega) rfl (by omega) (by omega) rfl (by omega) (by omega) kk
                      · exact lf_0_32 hlt B hX hbl hbA hF (eq_of_iv (n := 1) rfl (by omega) (by omega)) rfl (by omega) (by omega) rfl (by omega) (by omega) rfl (by omega) (by omega) rfl (by omega) (by omega) kk
                  · exact lf_0_33 hlt B hX hbl hbA hF (eq_of_iv (n := 1) rfl (by omega) (by omega)) rfl (by omega) (by omega) rfl (by omega) (by omega) rfl (by omega) (by omega) rfl (by omega) (by omega) kk
              · exact lf_0_34 hlt B hX hbl hbA hF (eq_of_iv (n := 1) rfl (by omega) (by omega)) rfl (by omega) (by omega) rfl (by omega) (by omega) rfl (by omega) (by omega) rfl (by omega) (by omega) kk
          · by_cases h6 : (xs 2).toInt < (20 : Int)
            · by_cases h7 : (xs 3).toInt < (0 : Int)
              · exact lf_0_35 hlt B hX hbl hbA hF (eq_of_iv (n := 1) rfl (by omega) (by omega)) rfl (by omega) (by omega) rfl (by omega) (by omega) rfl (by omega) (by omega) rfl (by omega) (by omega) kk
              · by_cases h8 : (xs 3).toInt < (18 : Int)
                · by_cases h9 : (xs 4).toInt < (0 : Int)
                  · exact lf_0_36 hlt B hX hbl hbA hF (eq_of_iv (n := 1) rfl (by omega) (by omega)) rfl (by omega) (by omega) rfl (by omega) (by omega) rfl (by omega) (by omega) rfl (by omega) (by omega) kk
                  · by_cases h10 : (xs 4).toInt < (100 : Int)
                    · by_cases h11 : (xs 5).toInt < (0 : Int)
                      · exact lf_0_37 hlt B hX hbl hbA hF (eq_of_iv (n := 1) rfl (by omega) (by omega)) rfl (by omega) (by omega) rfl (by omega) (by omega) rfl (by omega) (by omega) rfl (by omega) (by omega) kk
                      · by_cases h12 : (xs 5).toInt < (100 : Int)
                        · exact lf_0_38 hlt B hX hbl hbA hF (eq_of_iv (n := 1) rfl (by omega) (by omega)) rfl (by omega) (by omega) rfl (by omega) (by omega) rfl (by omega) (by omega) rfl (by omega) (by omega) kk
                        · exact lf_0_39 hlt B hX hbl hbA hF (eq_of_iv (n := 1) rfl (by omega) (by omega)) rfl (by omega) (by omega) rfl (by omega) (by omega) rfl (by omega) (by omega) rfl (by omega) (by omega) kk
                    · exact lf_0_40 hlt B hX hbl hbA hF (eq_of_iv (n := 1) rfl (by omega) (by omega)) rfl (by omega) (by omega) rfl (by omega) (by omega) rfl (by omega) (by omega) rfl (by omega) (by omega) kk
                · exact lf_0_41 hlt B hX hbl hbA hF (eq_of_iv (n := 1) rfl (by omega) (by omega)) rfl (by omega) (by omega) rfl (by omega) (by omega) rfl (by omega) (by omega) rfl (by omega) (by omega) kk
            · by_cases h7 : (xs 3).toInt < (0 : Int)
              · exact lf_0_42 hlt B hX hbl hbA hF (eq_of_iv (n := 1) rfl (by omega) (by omega)) rfl (by omega) (by omega) rfl (by omega) (by omega) rfl (by omega) (by omega) rfl (by omega) (by omega) kk
              · by_cases h8 : (xs 3).toInt < (18 : Int)
                · by_cases h9 : (xs 4).toInt < (0 : Int)
                  · exact lf_0_43 hlt B hX hbl hbA hF (eq_of_iv (n := 1) rfl (by omega) (by omega)) rfl (by omega) (by omega) rfl (by omega) (by omega) rfl (by omega) (by omega) rfl (by omega) (by omega) kk
                  · by_cases h10 : (xs 4).toInt < (100 : Int)
                    · by_cases h11 : (xs 5).toInt < (0 : Int)
                      · exact lf_0_44 hlt B hX hbl hbA hF (eq_of_iv (n := 1) rfl (by omega) (by omega)) rfl (by omega) (by omega) rfl (by omega) (by omega) rfl (by omega) (by omega) rfl (by omega) (by omega) kk
                      · by_cases h12 : (xs 5).toInt < (100 : Int)
                        · exact lf_0_45 hlt B hX hbl hbA hF (eq_of_iv (n := 1) rfl (by omega) (by omega)) rfl (by omega) (by omega) rfl (by omega) (by omega) rfl (by omega) (by omega) rfl (by omega) (by omega) kk
                        · exact lf_0_46 hlt B hX hbl hbA hF (eq_of_iv (n := 1) rfl (by omega) (by omega)) rfl (by omega) (by omega) rfl (by omega) (by omega) rfl (by omega) (by omega) rfl (by omega) (by omega) kk
                    · exact lf_0_47 hlt B hX hbl hbA hF (eq_of_iv (n := 1) rfl (by omega) (by omega)) rfl (by omega) (by omega) rfl (by omega) (by omega) rfl (by omega) (by omega) rfl (by omega) (by omega) kk
                · exact lf_0_48 hlt B hX hbl hbA hF (eq_of_iv (n := 1) rfl (by omega) (by omega)) rfl (by omega) (by omega) rfl (by omega) (by omega) rfl (by omega) (by omega) rfl (by omega) (by omega) kk
        · by_cases h5 : (xs 1).toInt < (3 : Int)
          · by_cases h6 : (xs 2).toInt < (0 : Int)
            · by_cases h7 : (xs 3).toInt < (0 : Int)
              · exact lf_0_49 hlt B hX hbl hbA hF (eq_of_iv (n := 2) rfl (by omega) (by omega)) rfl (by omega) (by omega) rfl (by omega) (by omega) rfl (by omega) (by omega) rfl (by omega) (by omega) kk
              · by_cases h8 : (xs 3).toInt < (18 : Int)
                · by_cases h9 : (xs 4).toInt < (0 : Int)
                  · exact lf_0_50 hlt B hX hbl hbA hF (eq_of_iv (n := 2) rfl (by omega) (by omega)) rfl (by omega) (by omega) rfl (by omega) (by omega) rfl (by omega) (by omega) rfl (by omega) (by omega) kk
                  · by_cases h10 : (xs 4).toInt < (100 : Int)
                    · by_cases h11 : (xs 5).toInt < (0 : Int)
                      · exact lf_0_51 hlt B hX hbl hbA hF (eq_of_iv (n := 2) rfl (by omega) (by omega)) rfl (by omega) (by omega) rfl (by omega) (by omega) rfl (by omega) (by omega) rfl (by omega) (by omega) kk
                      · by_cases h12 : (xs 5).toInt < (100 : Int)
                        · exact lf_0_52 hlt B hX hbl hbA hF (eq_of_iv (n := 2) rfl (by omega) (by omega)) rfl (by omega) (by omega) rfl (by omega) (by omega) rfl (by omega) (by omega) rfl (by omega) (by omega) kk
                        · exact lf_0_53 hlt B hX hbl hbA hF (eq_of_iv (n := 2) rfl (by omega) (by omega)) rfl (by omega) (by omega) rfl (by omega) (by omega) rfl (by omega) (by omega) rfl (by omega) (by omega) kk
                    · exact lf_0_54 hlt B hX hbl hbA hF (eq_of_iv (n := 2) rfl (by omega) (by omega)) rfl (by omega) (by omega) rfl (by omega) (by omega) rfl (by omega) (by omega) rfl (by omega) (by omega) kk
                · exact lf_0_55 hlt B hX hbl hbA hF (eq_of_iv (n := 2) rfl (by omega) (by omega)) rfl (by omega) (by omega) rfl (by omega) (by omega) rfl (by omega) (by omega) rfl (by omega) (by omega) kk
            · by_cases h7 : (xs 2).toInt < (20 : Int)
              · by_cases h8 : (xs 3).toInt < (0 : Int)
                · exact lf_0_56 hlt B hX hbl hbA hF (eq_of_iv (n := 2) rfl (by omega) (by omega)) rfl (by omega) (by omega) rfl (by omega) (by omega) rfl (by omega) (by omega) rfl (by omega) (by omega) kk
                · by_cases h9 : (xs 3).toInt < (18 : Int)
                  · by_cases h10 : (xs 4).toInt < (0 : Int)
                    · exact lf_0_57 hlt B hX hbl hbA hF (eq_of_iv (n := 2) rfl (by omega) (by omega)) rfl (by omega) (by omega) rfl (by omega) (by omega) rfl (by omega) (by omega) rfl (by omega) (by omega) kk
                    · by_cases h11 : (xs 4).toInt < (100 : Int)
                      · by_cases h12 : (xs 5).toInt < (0 : Int)
                        · exact lf_0_58 hlt B hX hbl hbA hF (eq_of_iv (n := 2) rfl (by omega) (by omega)) rfl (by omega) (by omega) rfl (by omega) (by omega) rfl (by omega) (by omega) rfl (by omega) (by omega) kk
                        · by_cases h13 : (xs 5).toInt < (100 : Int)
                          · exact lf_0_59 hlt B hX hbl hbA hF (eq_of_iv (n := 2) rfl (by omega) (by omega)) rfl (by omega) (by omega) rfl (by omega) (by omega) rfl (by omega) (by omega) rfl (by omega) (by omega) kk
                          · exact lf_0_60 hlt B hX hbl hbA hF (eq_of_iv (n := 2) rfl (by omega) (by omega)) rfl (by omega) (by omega) rfl (by omega) (by omega) rfl (by omega) (by omega) rfl (by omega) (by omega) kk
                      · exact lf_0_61 hlt B hX hbl hbA hF (eq_of_iv (n := 2) rfl (by omega) (by omega)) rfl (by omega) (by omega) rfl (by omega) (by omega) rfl (by omega) (by omega) rfl (by omega) (by omega) kk
                  · exact lf_0_62 hlt B hX hbl hbA hF (eq_of_iv (n := 2) rfl (by omega) (by omega)) rfl (by omega) (by omega) rfl (by omega) (by omega) rfl (by omega) (by omega) rfl (by omega) (by omega) kk
              · by_cases h8 : (xs 3).toInt < (0 : Int)
                · exact lf_0_63 hlt B hX hbl hbA hF (eq_of_iv (n := 2) rfl (by omega) (by omega)) rfl (by omega) (by omega) rfl (by omega) (by omega) rfl (by omega) (by omega) rfl (by omega) (by omega) kk
                · by_cases h9 : (xs 3).toInt < (18 : Int)
                  · by_cases h10 : (xs 4).toInt < (0 : Int)
                    · exact lf_0_64 hlt B hX hbl hbA hF (eq_of_iv (n := 2) rfl (by omega) (by omega)) rfl (by omega) (by omega) rfl (by omega) (by omega) rfl (by omega) (by omega) rfl (by omega) (by omega) kk
                    · by_cases h11 : (xs 4).toInt < (100 : Int)
                      · by_cases h12 : (xs 5).toInt < (0 : Int)
                        · exact lf_0_65 hlt B hX hbl hbA hF (eq_of_iv (n := 2) rfl (by omega) (by omega)) rfl (by omega) (by omega) rfl (by omega) (by omega) rfl (by omega) (by omega) rfl (by omega) (by omega) kk
                        · by_cases h13 : (xs 5).toInt < (100 : Int)
                          · exact lf_0_66 hlt B hX hbl hbA hF (eq_of_iv (n := 2) rfl (by omega) (by omega)) rfl (by omega) (by omega) rfl (by omega) (by omega) rfl (by omega) (by omega) rfl (by omega) (by omega) kk
                          · exact lf_0_67 hlt B hX hbl hbA hF (eq_of_iv (n := 2) rfl (by omega) (by omega)) rfl (by omega) (by omega) rfl (by omega) (by omega) rfl (by omega) (by omega) rfl (by omega) (by omega) kk
                      · exact lf_0_68 hlt B hX hbl hbA hF (eq_of_iv (n := 2) rfl (by omega) (by omega)) rfl (by omega) (by omega) rfl (by omega) (by omega) rfl (by omega) (by omega) rfl (by omega) (by omega) kk
                  · exact lf_0_69 hlt B hX hbl hbA hF (eq_of_iv (n := 2) rfl (by omega) (by omega)) rfl (by omega) (by omega) rfl (by omega) (by omega) rfl (by omega) (by omega) rfl (by omega) (by omega) kk
          · by_cases h6 : (xs 1).toInt < (4 : Int)
            · by_cases h7 : (xs 2).toInt < (0 : Int)
              · by_cases h8 : (xs 3).toInt < (0 : Int)
                · exact lf_0_70 hlt B hX hbl hbA hF (eq_of_iv (n := 3) rfl (by omega) (by omega)) rfl (by omega) (by omega) rfl (by omega) (by omega) rfl (by omega) (by omega) rfl (by omega) (by omega) kk
                · by_cases h9 : (xs 3).toInt < (18 : Int)
                  · by_cases h10 : (xs 4).toInt < (0 : Int)
                    · exact lf_0_71 hlt B hX hbl hbA hF (eq_of_iv (n := 3) rfl (by omega) (by omega)) rfl (by omega) (by omega) rfl (by omega) (by omega) rfl (by omega) (by omega) rfl (by omega) (by omega) kk
                    · by_cases h11 : (xs 4).toInt < (100 : Int)
                      · by_cases h12 : (xs 5).toInt < (0 : Int)
                        · exact lf_0_72 hlt B hX hbl hbA hF (eq_of_iv (n := 3) rfl (by omega) (by omega)) rfl (by omega) (by omega) rfl (by omega) (by omega) rfl (by omega) (by omega) rfl (by omega) (by omega) kk
                        · by_cases h13 : (xs 5).toInt < (100 : Int)
                          · exact lf_0_73 hlt B hX hbl hbA hF (eq_of_iv (n := 3) rfl (by omega) (by omega)) rfl (by omega) (by omega) rfl (by omega) (by omega) rfl (by omega) (by omega) rfl (by omega) (by omega) kk
                          · exact lf_0_74 hlt B hX hbl hbA hF (eq_of_iv (n := 3) rfl (by omega) (by omega)) rfl (by omega) (by omega) rfl (by omega) (by omega) rfl (by omega) (by omega) rfl (by omega) (by omega) kk
                      · exact lf_0_75 hlt B hX hbl hbA hF (eq_of_iv (n := 3) rfl (by omega) (by omega)) rfl (by omega) (by omega) rfl (by omega) (by omega) rfl (by omega) (by omega) rfl (by omega) (by omega) kk
                  · exact lf_0_76 hlt B hX hbl hbA hF (eq_of_iv (n := 3) rfl (by omega) (by omega)) rfl (by omega) (by omega) rfl (by omega) (by omega) rfl (by omega) (by omega) rfl (by omega) (by omega) kk
              · by_cases h8 : (xs 2).toInt < (20 : Int)
                · by_cases h9 : (xs 3).toInt < (0 : Int)
                  · exact lf_0_77 hlt B hX hbl hbA hF (eq_of_iv (n := 3) rfl (by omega) (by omega)) rfl (by omega) (by omega) rfl (by omega) (by omega) rfl (by omega) (by omega) rfl (by omega) (by omega) kk
                  · by_cases h10 : (xs 3).toInt < (18 : Int)
                    · by_cases h11 : (xs 4).toInt < (0 : Int)
                      · exact lf_0_78 hlt B hX hbl hbA hF (eq_of_iv (n := 3) rfl (by omega) (by omega)) rfl (by omega) (by omega) rfl (by omega) (by omega) rfl (by omega) (by omega) rfl (by omega) (by omega) kk
                      · by_cases h12 : (xs 4).toInt < (100 : Int)
                        · by_cases h13 : (xs 5).toInt < (0 : Int)
                          · exact lf_0_79 hlt B hX hbl hbA hF (eq_of_iv (n := 3) rfl (by omega) (by omega)) rfl (by omega) (by omega) rfl (by omega) (by omega) rfl (by omega) (by omega) rfl (by omega) (by omega) kk
                          · by_cases h14 : (xs 5).toInt < (100 : Int)
                            · exact lf_0_80 hlt B hX hbl hbA hF (eq_of_iv (n := 3) rfl (by omega) (by omega)) rfl (by omega) (by omega) rfl (by omega) (by omega) rfl (by omega) (by omega) rfl (by omega) (by omega) kk
                            · exact lf_0_81 hlt B hX hbl hbA hF (eq_of_iv (n := 3) rfl (by omega) (by omega)) rfl (by omega) (by omega) rfl (by omega) (by omega) rfl (by omega) (by omega) rfl (by omega) (by omega) kk
                        · exact lf_0_82 hlt B hX hbl hbA hF (eq_of_iv (n := 3) rfl (by omega) (by omega)) rfl (by omega) (by omega) rfl (by omega) (by omega) rfl (by omega) (by omega) rfl (by omega) (by omega) kk
                    · exact lf_0_83 hlt B hX hbl hbA hF (eq_of_iv (n := 3) rfl (by omega) (by omega)) rfl (by omega) (by omega) rfl (by omega) (by omega) rfl (by omega) (by omega) rfl (by omega) (by omega) kk
                · by_cases h9 : (xs 3).toInt < (0 : Int)
                  · exact lf_0_84 hlt B hX hbl hbA hF (eq_of_iv (n := 3) rfl (by omega) (by omega)) rfl (by omega) (by omega) rfl (by omega) (by omega) rfl (by omega) (by omega) rfl (by omega) (by omega) kk
                  · by_cases h10 : (xs 3).toInt < (18 : Int)
                    · by_cases h11 : (xs 4).toInt < (0 : Int)
                      · exact lf_0_85 hlt B hX hbl hbA hF (eq_of_iv (n := 3) rfl (by omega) (by omega)) rfl (by omega) (by omega) rfl (by omega) (by omega) rfl (by omega) (by omega) rfl (by omega) (by omega) kk
                      · by_cases h12 : (xs 4).toInt < (100 : Int)
                        · by_cases h13 : (xs 5).toInt < (0 : Int)
                          · exact lf_0_86 hlt B hX hbl hbA hF (eq_of_iv (n := 3) rfl (by omega) (by omega)) rfl (by omega) (by omega) rfl (by omega) (by omega) rfl (by omega) (by omega) rfl (by omega) (by omega) kk
                          · by_cases h14 : (xs 5).toInt < (100 : Int)
                            · exact lf_0_87 hlt B hX hbl hbA hF (eq_of_iv (n := 3) rfl (by omega) (by omega)) rfl (by omega) (by omega) rfl (by omega) (by omega) rfl (by omega) (by omega) rfl (by omega) (by omega) kk
                            · exact lf_0_88 hlt B hX hbl hbA hF (eq_of_iv (n := 3) rfl (by omega) (by omega)) rfl (by omega) (by omega) rfl (by omega) (by omega) rfl (by omega) (by omega) rfl (by omega) (by omega) kk
                        · exact lf_0_89 hlt B hX hbl hbA hF (eq_of_iv (n := 3) rfl (by omega) (by omega)) rfl (by omega) (by omega) rfl (by omega) (by omega) rfl (by omega) (by omega) rfl (by omega) (by omega) kk
                    · exact lf_0_90 hlt B hX hbl hbA hF (eq_of_iv (n := 3) rfl (by omega) (by omega)) rfl (by omega) (by omega) rfl (by omega) (by omega) rfl (by omega) (by omega) rfl (by omega) (by omega) kk
            · by_cases h7 : (xs 1).toInt < (5 : Int)
              · by_cases h8 : (xs 2).toInt < (0 : Int)
                · by_cases h9 : (xs 3).toInt < (0 : Int)
                  · exact lf_0_91 hlt B hX hbl hbA hF (eq_of_iv (n := 4) rfl (by omega) (by omega)) rfl (by omega) (by omega) rfl (by omega) (by omega) rfl (by omega) (by omega) rfl (by omega) (by omega) kk
                  · by_cases h10 : (xs 3).toInt < (18 : Int)
                    · by_cases h11 : (xs 4).toInt < (0 : Int)
                      · exact lf_0_92 hlt B hX hbl hbA hF (eq_of_iv (n := 4) rfl (by omega) (by omega)) rfl (by omega) (by omega) rfl (by omega) (by omega) rfl (by omega) (by omega) rfl (by omega) (by omega) kk
                      · by_cases h12 : (xs 4).toInt < (100 : Int)
                        · by_cases h13 : (xs 5).toInt < (0 : Int)
                          · exact lf_0_93 hlt B hX hbl hbA hF (eq_of_iv (n := 4) rfl (by omega) (by omega)) rfl (by omega) (by omega) rfl (by omega) (by omega) rfl (by omega) (by omega) rfl (by omega) (by omega) kk
                          · by_cases h14 : (xs 5).toInt < (100 : Int)
                            · exact lf_0_94 hlt B hX hbl hbA hF (eq_of_iv (n := 4) rfl (by omega) (by omega)) rfl (by omega) (by omega) rfl (by omega) (by omega) rfl (by omega) (by omega) rfl (by omega) (by omega) kk
                            · exact lf_0_95 hlt B hX hbl hbA hF (eq_of_iv (n := 4) rfl (by omega) (by omega)) rfl (by omega) (by omega) rfl (by omega) (by omega) rfl (by omega) (by omega) rfl (by omega) (by omega) kk
                        · exact lf_0_96 hlt B hX hbl hbA hF (eq_of_iv (n := 4) rfl (by omega) (by omega)) rfl (by omega) (by omega) rfl (by omega) (by omega) rfl (by omega) (by omega) rfl (by omega) (by omega) kk
                    · exact lf_0_97 hlt B hX hbl hbA hF (eq_of_iv (n := 4) rfl (by omega) (by omega)) rfl (by omega) (by omega) rfl (by omega) (by omega) rfl (by omega) (by omega) rfl (by omega) (by omega) kk
                · by_cases h9 : (xs 2).toInt < (20 : Int)
                  · by_cases h10 : (xs 3).toInt < (0 : Int)
                    · exact lf_0_98 hlt B hX hbl hbA hF (eq_of_iv (n := 4) rfl (by omega) (by omega)) rfl (by omega) (by omega) rfl (by omega) (by omega) rfl (by omega) (by omega) rfl (by omega) (by omega) kk
                    · by_cases h11 : (xs 3).toInt < (18 : Int)
                      · by_cases h12 : (xs 4).toInt < (0 : Int)
                        · exact lf_0_99 hlt B hX hbl hbA hF (eq_of_iv (n := 4) rfl (by omega) (by omega)) rfl (by omega) (by omega) rfl (by omega) (by omega) rfl (by omega) (by omega) rfl (by omega) (by omega) kk
                        · by_cases h13 : (xs 4).toInt < (100 : Int)
                          · by_cases h14 : (xs 5).toInt < (0 : Int)
                            · exact lf_0_100 hlt B hX hbl hbA hF (eq_of_iv (n := 4) rfl (by omega) (by omega)) rfl (by omega) (by omega) rfl (by omega) (by omega) rfl (by omega) (by omega) rfl (by omega) (by omega) kk
                            · by_cases h15 : (xs 5).toInt < (100 : Int)
                              · exact lf_0_101 hlt B hX hbl hbA hF (eq_of_iv (n := 4) rfl (by omega) (by omega)) rfl (by omega) (by omega) rfl (by omega) (by omega) rfl (by omega) (by omega) rfl (by omega) (by omega) kk
                              · exact lf_0_102 hlt B hX hbl hbA hF (eq_of_iv (n := 4) rfl (by omega) (by omega)) rfl (by omega) (by omega) rfl (by omega) (by omega) rfl (by omega) (by omega) rfl (by omega) (by omega) kk
                          · exact lf_0_103 hlt B hX hbl hbA hF (eq_of_iv (n := 4) rfl (by omega) (by omega)) rfl (by omega) (by omega) rfl (by omega) (by omega) rfl (by omega) (by omega) rfl (by omega) (by omega) kk
                      · exact lf_0_104 hlt B hX hbl hbA hF (eq_of_iv (n := 4) rfl (by omega) (by omega)) rfl (by omega) (by omega) rfl (by omega) (by omega) rfl (by omega) (by omega) rfl (by omega) (by omega) kk
                  · by_cases h10 : (xs 3).toInt < (0 : Int)
                    · exact lf_0_105 hlt B hX hbl hbA hF (eq_of_iv (n := 4) rfl (by omega) (by omega)) rfl (by omega) (by omega) rfl (by omega) (by omega) rfl (by omega) (by omega) rfl (by omega) (by omega) kk
                    · by_cases h11 : (xs 3).toInt < (18 : Int)
                      · by_cases h12 : (xs 4).toInt < (0 : Int)
                        · exact lf_0_106 hlt B hX hbl hbA hF (eq_of_iv (n := 4) rfl (by omega) (by omega)) rfl (by omega) (by omega) rfl (by omega) (by omega) rfl (by omega) (by omega) rfl (by omega) (by omega) kk
                        · by_cases h13 : (xs 4).toInt < (100 : Int)
                          · by_cases h14 : (xs 5).toInt < (0 : Int)
                            · exact lf_0_107 hlt B hX hbl hbA hF (eq_of_iv (n := 4) rfl (by omega) (by omega)) rfl (by omega) (by omega) rfl (by omega) (by omega) rfl (by omega) (by omega) rfl (by omega) (by omega) kk
                            · by_cases h15 : (xs 5).toInt < (100 : Int)
                              · exact lf_0_108 hlt B hX hbl hbA hF (eq_of_iv (n := 4) rfl (by omega) (by omega)) rfl (by omega) (by omega) rfl (by omega) (by omega) rfl (by omega) (by omega) rfl (by omega) (by omega) kk
                              · exact lf_0_109 hlt B hX hbl hbA hF (eq_of_iv (n := 4) rfl (by omega) (by omega)) rfl (by omega) (by omega) rfl (by omega) (by omega) rfl (by omega) (by omega) rfl (by omega) (by omega) kk
                          · exact lf_0_110 hlt B hX hbl hbA hF (eq_of_iv (n := 4) rfl (by omega) (by omega)) rfl (by omega) (by omega) rfl (by omega) (by omega) rfl (by omega) (by omega) rfl (by omega) (by omega) kk
                      · exact lf_0_111 hlt B hX hbl hbA hF (eq_of_iv (n := 4) rfl (by omega) (by omega)) rfl (by omega) (by omega) rfl (by omega) (by omega) rfl (by omega) (by omega) rfl (by omega) (by omega) kk
              · by_cases h8 : (xs 2).toInt < (0 : Int)
                · by_cases h9 : (xs 3).toInt < (0 : Int)
                  · exact lf_0_112 hlt B hX hbl hbA hF (eq_of_iv (n := 5) rfl (by omega) (by omega)) rfl (by omega) (by omega) rfl (by omega) (by omega) rfl (by omega) (by omega) rfl (by omega) (by omega) kk
                  · by_cases h10 : (xs 3).toInt < (18 : Int)
                    · by_cases h11 : (xs 4).toInt < (0 : Int)
                      · exact lf_0_113 hlt B hX hbl hbA hF (eq_of_iv (n := 5) rfl (by omega) (by omega)) rfl (by omega) (by omega) rfl (by omega) (by omega) rfl (by omega) (by omega) rfl (by omega) (by omega) kk
                      · by_cases h12 : (xs 4).toInt < (100 : Int)
                        · by_cases h13 : (xs 5).toInt < (0 : Int)
                          · exact lf_0_114 hlt B hX hbl hbA hF (eq_of_iv (n := 5) rfl (by omega) (by omega)) rfl (by omega) (by omega) rfl (by omega) (by omega) rfl (by omega) (by omega) rfl (by omega) (by omega) kk
                          · by_cases h14 : (xs 5).toInt < (100 : Int)
                            · exact lf_0_115 hlt B hX hbl hbA hF (eq_of_iv (n := 5) rfl (by omega) (by omega)) rfl (by omega) (by omega) rfl (by omega) (by omega) rfl (by omega) (by omega) rfl (by omega) (by omega) kk
                            · exact lf_0_116 hlt B hX hbl hbA hF (eq_of_iv (n := 5) rfl (by omega) (by omega)) rfl (by omega) (by omega) rfl (by omega) (by omega) rfl (by omega) (by omega) rfl (by omega) (by omega) kk
                        · exact lf_0_117 hlt B hX hbl hbA hF (eq_of_iv (n := 5) rfl (by omega) (by omega)) rfl (by omega) (by omega) rfl (by omega) (by omega) rfl (by omega) (by omega) rfl (by omega) (by omega) kk
                    · exact lf_0_118 hlt B hX hbl hbA hF (eq_of_iv (n := 5) rfl (by omega) (by omega)) rfl (by omega) (by omega) rfl (by omega) (by omega) rfl (by omega) (by omega) rfl (by omega) (by omega) kk
                · by_cases h9 : (xs 2).toInt < (20 : Int)
                  · by_cases h10 : (xs 3).toInt < (0 : Int)
                    · exact lf_0_119 hlt B hX hbl hbA hF (eq_of_iv (n := 5) rfl (by omega) (by omega)) rfl (by omega) (by omega) rfl (by omega) (by omega) rfl (by omega) (by omega) rfl (by omega) (by omega) kk
                    · by_cases h11 : (xs 3).toInt < (18 : Int)
                      · by_cases h12 : (xs 4).toInt < (0 : Int)
                        · exact lf_0_120 hlt B hX hbl hbA hF (eq_of_iv (n := 5) rfl (by omega) (by omega)) rfl (by omega) (by omega) rfl (by omega) (by omega) rfl (by omega) (by omega) rfl (by omega) (by omega) kk
                        · by_cases h13 : (xs 4).toInt < (100 : Int)
                          · by_cases h14 : (xs 5).toInt < (0 : Int)
                            · exact lf_0_121 hlt B hX hbl hbA hF (eq_of_iv (n := 5) rfl (by omega) (by omega)) rfl (by omega) (by omega) rfl (by omega) (by omega) rfl (by omega) (by omega) rfl (by omega) (by omega) kk
                            · by_cases h15 : (xs 5).toInt < (100 : Int)
                              · exact lf_0_122 hlt B hX hbl hbA hF (eq_of_iv (n := 5) rfl (by omega) (by omega)) rfl (by omega) (by omega) rfl (by omega) (by omega) rfl (by omega) (by omega) rfl (by omega) (by omega) kk
                              · exact lf_0_123 hlt B hX hbl hbA hF (eq_of_iv (n := 5) rfl (by omega) (by omega)) rfl (by omega) (by omega) rfl (by omega) (by omega) rfl (by omega) (by omega) rfl (by omega) (by omega) kk
                          · exact lf_0_124 hlt B hX hbl hbA hF (eq_of_iv (n := 5) rfl (by omega) (by omega)) rfl (by omega) (by omega) rfl (by omega) (by omega) rfl (by omega) (by omega) rfl (by omega) (by omega) kk
                      · exact lf_0_125 hlt B hX hbl hbA hF (eq_of_iv (n := 5) rfl (by omega) (by omega)) rfl (by omega) (by omega) rfl (by omega) (by omega) rfl (by omega) (by omega) rfl (by omega) (by omega) kk
                  · by_cases h10 : (xs 3).toInt < (0 : Int)
                    · exact lf_0_126 hlt B hX hbl hbA hF (eq_of_iv (n := 5) rfl (by omega) (by omega)) rfl (by omega) (by omega) rfl (by omega) (by omega) rfl (by omega) (by omega) rfl (by omega) (by omega) kk
                    · by_cases h11 : (xs 3).toInt < (18 : Int)
                      · by_cases h12 : (xs 4).toInt < (0 : Int)
                        · exact lf_0_127 hlt B hX hbl hbA hF (eq_of_iv (n := 5) rfl (by omega) (by omega)) rfl (by omega) (by omega) rfl (by omega) (by omega) rfl (by omega) (by omega) rfl (by omega) (by omega) kk
                        · by_cases h13 : (xs 4).toInt < (100 : Int)
                          · by_cases h14 : (xs 5).toInt < (0 : Int)
                            · exact lf_0_128 hlt B hX hbl hbA hF (eq_of_iv (n := 5) rfl (by omega) (by omega)) rfl (by omega) (by omega) rfl (by omega) (by omega) rfl (by omega) (by omega) rfl (by omega) (by omega) kk
                            · by_cases h15 : (xs 5).toInt < (100 : Int)
                              · exact lf_0_129 hlt B hX hbl hbA hF (eq_of_iv (n := 5) rfl (by omega) (by omega)) rfl (by omega) (by omega) rfl (by omega) (by omega) rfl (by omega) (by omega) rfl (by omega) (by omega) kk
                              · exact lf_0_130 hlt B hX hbl hbA hF (eq_of_iv (n := 5) rfl (by omega) (by omega)) rfl (by omega) (by omega) rfl (by omega) (by omega) rfl (by omega) (by omega) rfl (by omega) (by omega) kk
                          · exact lf_0_131 hlt B hX hbl hbA hF (eq_of_iv (n := 5) rfl (by omega) (by omega)) rfl (by omega) (by omega) rfl (by omega) (by omega) rfl (by omega) (by omega) rfl (by omega) (by omega) kk
                      · exact lf_0_132 hlt B hX hbl hbA hF (eq_of_iv (n := 5) rfl (by omega) (by omega)) rfl (by omega) (by omega) rfl (by omega) (by omega) rfl (by omega) (by omega) rfl (by omega) (by omega) kk
    · by_cases h3 : (xs 3).toInt < (0 : Int)
      · exact lf_0_133 hlt B hX hbl hbA hF rfl (by omega) (by omega) rfl (by omega) (by omega) rfl (by omega) (by omega) rfl (by omega) (by omega) rfl (by omega) (by omega) kk
      · by_cases h4 : (xs 3).toInt < (18 : Int)
        · by_cases h5 : (xs 4).toInt < (0 : Int)
          · exact lf_0_134 hlt B hX hbl hbA hF rfl (by omega) (by omega) rfl (by omega) (by omega) rfl (by omega) (by omega) rfl (by omega) (by omega) rfl (by omega) (by omega) kk
          · by_cases h6 : (xs 4).toInt < (100 : Int)
            · by_cases h7 : (xs 5).toInt < (0 : Int)
              · exact lf_0_135 hlt B hX hbl hbA hF rfl (by omega) (by omega) rfl (by omega) (by omega) rfl (by omega) (by omega) rfl (by omega) (by omega) rfl (by omega) (by omega) kk
              · by_cases h8 : (xs 5).toInt < (100 : Int)
                · exact lf_0_136 hlt B hX hbl hbA hF rfl (by omega) (by omega) rfl (by omega) (by omega) rfl (by omega) (by omega) rfl (by omega) (by omega) rfl (by omega) (by omega) kk
                · exact lf_0_137 hlt B hX hbl hbA hF rfl (by omega) (by omega) rfl (by omega) (by omega) rfl (by omega) (by omega) rfl (by omega) (by omega) rfl (by omega) (by omega) kk
            · exact lf_0_138 hlt B hX hbl hbA hF rfl (by omega) (by omega) rfl (by omega) (by omega) rfl (by omega) (by omega) rfl (by omega) (by omega) rfl (by omega) (by omega) kk
        · exact lf_0_139 hlt B hX hbl hbA hF rfl (by omega) (by omega) rfl (by omega) (by omega) rfl (by omega) (by omega) rfl (by omega) (by omega) rfl (by omega) (by omega) kk
theorem cs_1 {p : Program} {l : Launch} {e : Env} {s : State} {m : MethodId} {args : Array Value} {below : List Frame} {meth : Method} {c : Code} {g : gx_T} {Q : State → Prop} {σ : sx_T} {b t bS : Nat} {xs : Nat → Int32} (hlt : l.stackTraces = false) (B : zx_B p s m args meth c code RL 8 g) (hX : va_X bS 6 xs s s.heap) (hbl : bS < s.heap.size) (hbA : ¬ gx_b g ≤ bS) (hF : fz_P b t σ) (kk : ∀ σ', zx p l e room_1 s m args below meth c g 8 600002 7302232 Q σ' 1395 [(4, .int 0), (0, .ref bS)] []) : zx p l e room_1 s m args below meth c g 8 500 100000 Q σ 252 [(4, .int 0), (3, .ref (b + 431)), (2, .ref (b + 405)), (1, .ref (b + 0)), (0, .ref bS)] [] := by
  have b1 := Int32.le_toInt (xs 1)
  have c1 := Int32.toInt_lt (xs 1)
  have b2 := Int32.le_toInt (xs 2)
  have c2 := Int32.toInt_lt (xs 2)
  have b3 := Int32.le_toInt (xs 3)
  have c3 := Int32.toInt_lt (xs 3)
  have b4 := Int32.le_toInt (xs 4)
  have c4 := Int32.toInt_lt (xs 4)
  have b5 := Int32.le_toInt (xs 5)
  have c5 := Int32.toInt_lt (xs 5)
  by_cases h1 : (xs 1).toInt < (0 : Int)
  · by_cases h2 : (xs 3).toInt < (0 : Int)
    · exact lf_1_140 hlt B hX hbl hbA hF rfl (by omega) (by omega) rfl (by omega) (by omega) rfl (by omega) (by omega) rfl (by omega) (by omega) rfl (by omega) (by omega) kk
    · by_cases h3 : (xs 3).toInt < (18 : Int)
      · by_cases h4 : (xs 4).toInt < (0 : Int)
        · exact lf_1_141 hlt B hX hbl hbA hF rfl (by omega) (by omega) rfl (by omega) (by omega) rfl (by omega) (by omega) rfl (by omega) (by omega) rfl (by omega) (by omega) kk
        · by_cases h5 : (xs 4).toInt < (100 : Int)
          · by_cases h6 : (xs 5).toInt < (0 : Int)
            · exact lf_1_142 hlt B hX hbl hbA hF rfl (by omega) (by omega) rfl (by omega) (by omega) rfl (by omega) (by omega) rfl (by omega) (by omega) rfl (by omega) (by omega) kk
            · by_cases h7 : (xs 5).toInt < (100 : Int)
              · exact lf_1_143 hlt B hX hbl hbA hF rfl (by omega) (by omega) rfl (by omega) (by omega) rfl (by omega) (by omega) rfl (by omega) (by omega) rfl (by omega) (by omega) kk
              · exact lf_1_144 hlt B hX hbl hbA hF rfl (by omega) (by omega) rfl (by omega) (by omega) rfl (by omega) (by omega) rfl (by omega) (by omega) rfl (by omega) (by omega) kk
          · exact lf_1_145 hlt B hX hbl hbA hF rfl (by omega) (by omega) rfl (by omega) (by omega) rfl (by omega) (by omega) rfl (by omega) (by omega) rfl (by omega) (by omega) kk
      · exact lf_1_146 hlt B hX hbl hbA hF rfl (by omega) (by omega) rfl (by omega) (by omega) rfl (by omega) (by omega) rfl (by omega) (by omega) rfl (by omega) (by omega) kk
  · by_cases h2 : (xs 1).toInt < (6 : Int)
    · by_cases h3 : (xs 1).toInt < (1 : Int)
      · by_cases h4 : (xs 2).toInt < (0 : Int)
        · by_cases h5 : (xs 3).toInt < (0 : Int)
          · exact lf_1_147 hlt B hX hbl hbA hF (eq_of_iv (n := 0) rfl (by omega) (by omega)) rfl (by omega) (by omega) rfl (by omega) (by omega) rfl (by omega) (by omega) rfl (by omega) (by omega) kk
          · by_cases h6 : (xs 3).toInt < (18 : Int)
            · by_cases h7 : (xs 4).toInt < (0 : Int)
              · exact lf_1_148 hlt B hX hbl hbA hF (eq_of_iv (n := 0) rfl (by omega) (by omega)) rfl (by omega) (by omega) rfl (by omega) (by omega) rfl (by omega) (by omega) rfl (by omega) (by omega) kk
              · by_cases h8 : (xs 4).toInt < (100 : Int)
                · by_cases h9 : (xs 5).toInt < (0 : Int)
                  · exact lf_1_149 hlt B hX hbl hbA hF (eq_of_iv (n := 0) rfl (by omega) (by omega)) rfl (by omega) (by omega) rfl (by omega) (by omega) rfl (by omega) (by omega) rfl (by omega) (by omega) kk
                  · by_cases h10 : (xs 5).toInt < (100 : Int)
                    · exact lf_1_150 hlt B hX hbl hbA hF (eq_of_iv (n := 0) rfl (by omega) (by omega)) rfl (by omega) (by omega) rfl (by omega) (by omega) rfl (by omega) (by omega) rfl (by omega) (by omega) kk
                    · exact lf_1_151 hlt B hX hbl hbA hF (eq_of_iv (n := 0) rfl (by omega) (by omega)) rfl (by omega) (by omega) rfl (by omega) (by omega) rfl (by omega) (by omega) rfl (by omega) (by omega) kk
                · exact lf_1_152 hlt B hX hbl hbA hF (eq_of_iv (n := 0) rfl (by omega) (by omega)) rfl (by omega) (by omega) rfl (by omega) (by omega) rfl (by omega) (by omega) rfl (by omega) (by omega) kk
            · exact lf_1_153 hlt B hX hbl hbA hF (eq_of_iv (n := 0) rfl (by omega) (by omega)) rfl (by omega) (by omega) rfl (by omega) (by omega) rfl (by omega) (by omega) rfl (by omega) (by omega) kk
        · by_cases h5 : (xs 2).toInt < (20 : Int)
          · by_cases h6 : (xs 3).toInt < (0 : Int)
            · exact lf_1_154 hlt B hX hbl hbA hF (eq_of_iv (n := 0) rfl (by omega) (by omega)) rfl (by omega) (by omega) rfl (by omega) (by omega) rfl (by omega) (by omega) rfl (by omega) (by omega) kk
            · by_cases h7 : (xs 3).toInt < (18 : Int)
              · by_cases h8 : (xs 4).toInt < (0 : Int)
                · exact lf_1_155 hlt B hX hbl hbA hF (eq_of_iv (n := 0) rfl (by omega) (by omega)) rfl (by omega) (by omega) rfl (by omega) (by omega) rfl (by omega) (by omega) rfl (by omega) (by omega) kk
                · by_cases h9 : (xs 4).toInt < (100 : Int)
                  · by_cases h10 : (xs 5).toInt < (0 : Int)
                    · exact lf_1_156 hlt B hX hbl hbA hF (eq_of_iv (n := 0) rfl (by omega) (by omega)) rfl (by omega) (by omega) rfl (by omega) (by omega) rfl (by omega) (by omega) rfl (by omega) (by omega) kk
                    · by_cases h11 : (xs 5).toInt < (100 : Int)
                      · exact lf_1_157 hlt B hX hbl hbA hF (eq_of_iv (n := 0) rfl (by omega) (by omega)) rfl (by omega) (by omega) rfl (by omega) (by omega) rfl (by omega) (by omega) rfl (by omega) (by omega) kk
                      · exact lf_1_158 hlt B hX hbl hbA hF (eq_of_iv (n := 0) rfl (by omega) (by omega)) rfl (by omega) (by omega) rfl (by omega) (by omega) rfl (by omega) (by omega) rfl (by omega) (by omega) kk
                  · exact lf_1_159 hlt B hX hbl hbA hF (eq_of_iv (n := 0) rfl (by omega) (by omega)) rfl (by omega) (by omega) rfl (by omega) (by omega) rfl (by omega) (by omega) rfl (by omega) (by omega) kk
              · exact lf_1_160 hlt B hX hbl hbA hF (eq_of_iv (n := 0) rfl (by omega) (by omega)) rfl (by omega) (by omega) rfl (by omega) (by omega) rfl (by omega) (by omega) rfl (by omega) (by omega) kk
          · by_cases h6 : (xs 3).toInt < (0 : Int)
            · exact lf_1_161 hlt B hX hbl hbA hF (eq_of_iv (n := 0) rfl (by omega) (by omega)) rfl (by omega) (by omega) rfl (by omega) (by omega) rfl (by omega) (by omega) rfl (by omega) (by omega) kk
            · by_cases h7 : (xs 3).toInt < (18 : Int)
              · by_cases h8 : (xs 4).toInt < (0 : Int)
                · exact lf_1_162 hlt B hX hbl hbA hF (eq_of_iv (n := 0) rfl (by omega) (by omega)) rfl (by omega) (by omega) rfl (by omega) (by omega) rfl (by omega) (by omega) rfl (by omega) (by omega) kk
                · by_cases h9 : (xs 4).toInt < (100 : Int)
                  · by_cases h10 : (xs 5).toInt < (0 : Int)
                    · exact lf_1_163 hlt B hX hbl hbA hF (eq_of_iv (n := 0) rfl (by omega) (by omega)) rfl (by omega) (by omega) rfl (by omega) (by omega) rfl (by omega) (by omega) rfl (by omega) (by omega) kk
                    · by_cases h11 : (xs 5).toInt < (100 : Int)
                      · exact lf_1_164 hlt B hX hbl hbA hF (eq_of_iv (n := 0) rfl (by omega) (by omega)) rfl (by omega) (by omega) rfl (by omega) (by omega) rfl (by omega) (by omega) rfl (by omega) (by omega) kk
                      · exact lf_1_165 hlt B hX hbl hbA hF (eq_of_iv (n := 0) rfl (by omega) (by omega)) rfl (by omega) (by omega) rfl (by omega) (by omega) rfl (by omega) (by omega) rfl (by omega) (by omega) kk
                  · exact lf_1_166 hlt B hX hbl hbA hF (eq_of_iv (n := 0) rfl (by omega) (by omega)) rfl (by omega) (by omega) rfl (by omega) (by omega) rfl (by omega) (by omega) rfl (by omega) (by omega) kk
              · exact lf_1_167 hlt B hX hbl hbA hF (eq_of_iv (n := 0) rfl (by omega) (by omega)) rfl (by omega) (by omega) rfl (by omega) (by omega) rfl (by omega) (by omega) rfl (by omega) (by omega) kk
      · by_cases h4 : (xs 1).toInt < (2 : Int)
        · by_cases h5 : (xs 2).toInt < (0 : Int)
          · by_cases h6 : (xs 3).toInt < (0 : Int)
            · exact lf_1_168 hlt B hX hbl hbA hF (eq_of_iv (n := 1) rfl (by omega) (by omega)) rfl (by omega) (by omega) rfl (by omega) (by omega) rfl (by omega) (by omega) rfl (by omega) (by omega) kk
            · by_cases h7 : (xs 3).toInt < (18 : Int)
              · by_cases h8 : (xs 4).toInt < (0 : Int)
                · exact lf_1_169 hlt B hX hbl hbA hF (eq_of_iv (n := 1) rfl (by omega) (by omega)) rfl (by omega) (by omega) rfl (by omega) (by omega) rfl (by omega) (by omega) rfl (by omega) (by omega) kk
                · by_cases h9 : (xs 4).toInt < (100 : Int)
                  · by_cases h10 : (xs 5).toInt < (0 : Int)
                    · exact lf_1_170 hlt B hX hbl hbA hF (eq_of_iv (n := 1) rfl (by omega) (by omega)) rfl (by omega) (by omega) rfl (by omega) (by omega) rfl (by omega) (by omega) rfl (by omega) (by omega) kk
                    · by_cases h11 : (xs 5).toInt < (100 : Int)
                      · exact lf_1_171 hlt B hX hbl hbA hF (eq_of_iv (n := 1) rfl (by omega) (by omega)) rfl (by omega) (by omega) rfl (by omega) (by omega) rfl (by omega) (by omega) rfl (by omega) (by omega) kk
                      · exact lf_1_172 hlt B hX hbl hbA hF (eq_of_iv (n := 1) rfl (by omega) (by omega)) rfl (by omega) (by omega) rfl (by omega) (by omega) rfl (by omega) (by omega) rfl (by omega) (by omega) kk
                  · exact lf_1_173 hlt B hX hbl hbA hF (eq_of_iv (n := 1) rfl (by omega) (by omega)) rfl (by omega) (by omega) rfl (by omega) (by omega) rfl (by omega) (by omega) rfl (by omega) (by omega) kk
              · exact lf_1_174 hlt B hX hbl hbA hF (eq_of_iv (n := 1) rfl (by omega) (by omega)) rfl (by omega) (by omega) rfl (by omega) (by omega) rfl (by omega) (by omega) rfl (by omega) (by omega) kk
          · by_cases h6 : (xs 2).toInt < (20 : Int)
            · by_cases h7 : (xs 3).toInt < (0 : Int)
              · exact lf_1_175 hlt B hX hbl hbA hF (eq_of_iv (n := 1) rfl (by omega) (by omega)) rfl (by omega) (by omega) rfl (by omega) (by omega) rfl (by omega) (by omega) rfl (by omega) (by omega) kk
              · by_cases h8 : (xs 3).toInt < (18 : Int)
                · by_cases h9 : (xs 4).toInt < (0 : Int)
                  · exact lf_1_176 hlt B hX hbl hbA hF (eq_of_iv (n := 1) rfl (by omega) (by omega)) rfl (by omega) (by omega) rfl (by omega) (by omega) rfl (by omega) (by omega) rfl (by omega) (by omega) kk
                  · by_cases h10 : (xs 4).toInt < (100 : Int)
                    · by_cases h11 : (xs 5).toInt < (0 : Int)
                      · exact lf_1_177 hlt B hX hbl hbA hF (eq_of_iv (n := 1) rfl (by omega) (by omega)) rfl (by omega) (by omega) rfl (by omega) (by omega) rfl (by omega) (by omega) rfl (by omega) (by omega) kk
                      · by_cases h12 : (xs 5).toInt < (100 : Int)
                        · exact lf_1_178 hlt B hX hbl hbA hF (eq_of_iv (n := 1) rfl (by omega) (by omega)) rfl (by omega) (by omega) rfl (by omega) (by omega) rfl (by omega) (by omega) rfl (by omega) (by omega) kk
                        · exact lf_1_179 hlt B hX hbl hbA hF (eq_of_iv (n := 1) rfl (by omega) (by omega)) rfl (by omega) (by omega) rfl (by omega) (by omega) rfl (by omega) (by omega) rfl (by omega) (by omega) kk
                    · exact lf_1_180 hlt B hX hbl hbA hF (eq_of_iv (n := 1) rfl (by omega) (by omega)) rfl (by omega) (by omega) rfl (by omega) (by omega) rfl (by omega) (by omega) rfl (by omega) (by omega) kk
                · exact lf_1_181 hlt B hX hbl hbA hF (eq_of_iv (n := 1) rfl (by omega) (by omega)) rfl (by omega) (by omega) rfl (by omega) (by omega) rfl (by omega) (by omega) rfl (by omega) (by omega) kk
            · by_cases h7 : (xs 3).toInt < (0 : Int)
              · exact lf_1_182 hlt B hX hbl hbA hF (eq_of_iv (n := 1) rfl (by omega) (by omega)) rfl (by omega) (by omega) rfl (by omega) (by omega) rfl (by omega) (by omega) rfl (by omega) (by omega) kk
              · by_cases h8 : (xs 3).toInt < (18 : Int)
                · by_cases h9 : (xs 4).toInt < (0 : Int)
                  · exact lf_1_183 hlt B hX hbl hbA hF (eq_of_iv (n := 1) rfl (by omega) (by omega)) rfl (by omega) (by omega) rfl (by omega) (by omega) rfl (by omega) (by omega) rfl (by omega) (by omega) kk
                  · by_cases h10 : (xs 4).toInt < (100 : Int)
                    · by_cases h11 : (xs 5).toInt < (0 : Int)
                      · exact lf_1_184 hlt B hX hbl hbA hF (eq_of_iv (n := 1) rfl (by omega) (by omega)) rfl (by omega) (by omega) rfl (by omega) (by omega) rfl (by omega) (by omega) rfl (by omega) (by omega) kk
                      · by_cases h12 : (xs 5).toInt < (100 : Int)
                        · exact lf_1_185 hlt B hX hbl hbA hF (eq_of_iv (n := 1) rfl (by omega) (by omega)) rfl (by omega) (by omega) rfl (by omega) (by omega) rfl (by omega) (by omega) rfl (by omega) (by omega) kk
                        · exact lf_1_186 hlt B hX hbl hbA hF (eq_of_iv (n := 1) rfl (by omega) (by omega)) rfl (by omega) (by omega) rfl (by omega) (by omega) rfl (by omega) (by omega) rfl (by omega) (by omega) kk
                    · exact lf_1_187 hlt B hX hbl hbA hF (eq_of_iv (n := 1) rfl (by omega) (by omega)) rfl (by omega) (by omega) rfl (by omega) (by omega) rfl (by omega) (by omega) rfl (by omega) (by omega) kk
                · exact lf_1_188 hlt B hX hbl hbA hF (eq_of_iv (n := 1) rfl (by omega) (by omega)) rfl (by omega) (by omega) rfl (by omega) (by omega) rfl (by omega) (by omega) rfl (by omega) (by omega) kk
        · by_cases h5 : (xs 1).toInt < (3 : Int)
          · by_cases h6 : (xs 2).toInt < (0 : Int)
            · by_cases h7 : (xs 3).toInt < (0 : Int)
              · exact lf_1_189 hlt B hX hbl hbA hF (eq_of_iv (n := 2) rfl (by omega) (by omega)) rfl (by omega) (by omega) rfl (by omega) (by omega) rfl (by omega) (by omega) rfl (by omega) (by omega) kk
              · by_cases h8 : (xs 3).toInt < (18 : Int)
                · by_cases h9 : (xs 4).toInt < (0 : Int)
                  · exact lf_1_190 hlt B hX hbl hbA hF (eq_of_iv (n := 2) rfl (by omega) (by omega)) rfl (by omega) (by omega) rfl (by omega) (by omega) rfl (by omega) (by omega) rfl (by omega) (by omega) kk
                  · by_cases h10 : (xs 4).toInt < (100 : Int)
                    · by_cases h11 : (xs 5).toInt < (0 : Int)
                      · exact lf_1_191 hlt B hX hbl hbA hF (eq_of_iv (n := 2) rfl (by omega) (by omega)) rfl (by omega) (by omega) rfl (by omega) (by omega) rfl (by omega) (by omega) rfl (by omega) (by omega) kk
                      · by_cases h12 : (xs 5).toInt < (100 : Int)
                        · exact lf_1_192 hlt B hX hbl hbA hF (eq_of_iv (n := 2) rfl (by omega) (by omega)) rfl (by omega) (by omega) rfl (by omega) (by omega) rfl (by omega) (by omega) rfl (by omega) (by omega) kk
                        · exact lf_1_193 hlt B hX hbl hbA hF (eq_of_iv (n := 2) rfl (by omega) (by omega)) rfl (by omega) (by omega) rfl (by omega) (by omega) rfl (by omega) (by omega) rfl (by omega) (by omega) kk
                    · exact lf_1_194 hlt B hX hbl hbA hF (eq_of_iv (n := 2) rfl (by omega) (by omega)) rfl (by omega) (by omega) rfl (by omega) (by omega) rfl (by omega) (by omega) rfl (by omega) (by omega) kk
                · exact lf_1_195 hlt B hX hbl hbA hF (eq_of_iv (n := 2) rfl (by omega) (by omega)) rfl (by omega) (by omega) rfl (by omega) (by omega) rfl (by omega) (by omega) rfl (by omega) (by omega) kk
            · by_cases h7 : (xs 2).toInt < (20 : Int)
              · by_cases h8 : (xs 3).toInt < (0 : Int)
                · exact lf_1_196 hlt B hX hbl hbA hF (eq_of_iv (n := 2) rfl (by omega) (by omega)) rfl (by omega) (by omega) rfl (by omega) (by omega) rfl (by omega) (by omega) rfl (by omega) (by omega) kk
                · by_cases h9 : (xs 3).toInt < (18 : Int)
                  · by_cases h10 : (xs 4).toInt < (0 : Int)
                    · exact lf_1_197 hlt B hX hbl hbA hF (eq_of_iv (n := 2) rfl (by omega) (by omega)) rfl (by omega) (by omega) rfl (by omega) (by omega) rfl (by omega) (by omega) rfl (by omega) (by omega) kk
                    · by_cases h11 : (xs 4).toInt < (100 : Int)
                      · by_cases h12 : (xs 5).toInt < (0 : Int)
                        · exact lf_1_198 hlt B hX hbl hbA hF (eq_of_iv (n := 2) rfl (by omega) (by omega)) rfl (by omega) (by omega) rfl (by omega) (by omega) rfl (by omega) (by omega) rfl (by omega) (by omega) kk
                        · by_cases h13 : (xs 5).toInt < (100 : Int)
                          · exact lf_1_199 hlt B hX hbl hbA hF (eq_of_iv (n := 2) rfl (by omega) (by omega)) rfl (by omega) (by omega) rfl (by omega) (by omega) rfl (by omega) (by omega) rfl (by omega) (by omega) kk
                          · exact lf_1_200 hlt B hX hbl hbA hF (eq_of_iv (n := 2) rfl (by omega) (by omega)) rfl (by omega) (by omega) rfl (by omega) (by omega) rfl (by omega) (by omega) rfl (by omega) (by omega) kk
                      · exact lf_1_201 hlt B hX hbl hbA hF (eq_of_iv (n := 2) rfl (by omega) (by omega)) rfl (by omega) (by omega) rfl (by omega) (by omega) rfl (by omega) (by omega) rfl (by omega) (by omega) kk
                  · exact lf_1_202 hlt B hX hbl hbA hF (eq_of_iv (n := 2) rfl (by omega) (by omega)) rfl (by omega) (by omega) rfl (by omega) (by omega) rfl (by omega) (by omega) rfl (by omega) (by omega) kk
              · by_cases h8 : (xs 3).toInt < (0 : Int)
                · exact lf_1_203 hlt B hX hbl hbA hF (eq_of_iv (n := 2) rfl (by omega) (by omega)) rfl (by omega) (by omega) rfl (by omega) (by omega) rfl (by omega) (by omega) rfl (by omega) (by omega) kk
                · by_cases h9 : (xs 3).toInt < (18 : Int)
                  · by_cases h10 : (xs 4).toInt < (0 : Int)
                    · exact lf_1_204 hlt B hX hbl hbA hF (eq_of_iv (n := 2) rfl (by omega) (by omega)) rfl (by omega) (by omega) rfl (by omega) (by omega) rfl (by omega) (by omega) rfl (by omega) (by omega) kk
                    · by_cases h11 : (xs 4).toInt < (100 : Int)
                      · by_cases h12 : (xs 5).toInt < (0 : Int)
                        · exact lf_1_205 hlt B hX hbl hbA hF (eq_of_iv (n := 2) rfl (by omega) (by omega)) rfl (by omega) (by omega) rfl (by omega) (by omega) rfl (by omega) (by omega) rfl (by omega) (by omega) kk
                        · by_cases h13 : (xs 5).toInt < (100 : Int)
                          · exact lf_1_206 hlt B hX hbl hbA hF (eq_of_iv (n := 2) rfl (by omega) (by omega)) rfl (by omega) (by omega) rfl (by omega) (by omega) rfl (by omega) (by omega) rfl (by omega) (by omega) kk
                          · exact lf_1_207 hlt B hX hbl hbA hF (eq_of_iv (n := 2) rfl (by omega) (by omega)) rfl (by omega) (by omega) rfl (by omega) (by omega) rfl (by omega) (by omega) rfl (by omega) (by omega) kk
                      · exact lf_1_208 hlt B hX hbl hbA hF (eq_of_iv (n := 2) rfl (by omega) (by omega)) rfl (by omega) (by omega) rfl (by omega) (by omega) rfl (by omega) (by omega) rfl (by omega) (by omega) kk
                  · exact lf_1_209 hlt B hX hbl hbA hF (eq_of_iv (n := 2) rfl (by omega) (by omega)) rfl (by omega) (by omega) rfl (by omega) (by omega) rfl (by omega) (by omega) rfl (by omega) (by omega) kk
          · by_cases h6 : (xs 1).toInt < (4 : Int)
            · by_cases h7 : (xs 2).toInt < (0 : Int)
              · by_cases h8 : (xs 3).toInt < (0 : Int)
                · exact lf_1_210 hlt B hX hbl hbA hF (eq_of_iv (n := 3) rfl (by omega) (by omega)) rfl (by omega) (by omega) rfl (by omega) (by omega) rfl (by omega) (by omega) rfl (by omega) (by omega) kk
                · by_cases h9 : (xs 3).toInt < (18 : Int)
                  · by_cases h10 : (xs 4).toInt < (0 : Int)
                    · exact lf_1_211 hlt B hX hbl hbA hF (eq_of_iv (n := 3) rfl (by omega) (by omega)) rfl (by omega) (by omega) rfl (by omega) (by omega) rfl (by omega) (by omega) rfl (by omega) (by omega) kk
                    · by_cases h11 : (xs 4).toInt < (100 : Int)
                      · by_cases h12 : (xs 5).toInt < (0 : Int)
                        · exact lf_1_212 hlt B hX hbl hbA hF (eq_of_iv (n := 3) rfl (by omega) (by omega)) rfl (by omega) (by omega) rfl (by omega) (by omega) rfl (by omega) (by omega) rfl (by omega) (by omega) kk
                        · by_cases h13 : (xs 5).toInt < (100 : Int)
                          · exact lf_1_213 hlt B hX hbl hbA hF (eq_of_iv (n := 3) rfl (by omega) (by omega)) rfl (by omega) (by omega) rfl (by omega) (by omega) rfl (by omega) (by omega) rfl (by omega) (by omega) kk
                          · exact lf_1_214 hlt B hX hbl hbA hF (eq_of_iv (n := 3) rfl (by omega) (by omega)) rfl (by omega) (by omega) rfl (by omega) (by omega) rfl (by omega) (by omega) rfl (by omega) (by omega) kk
                      · exact lf_1_215 hlt B hX hbl hbA hF (eq_of_iv (n := 3) rfl (by omega) (by omega)) rfl (by omega) (by omega) rfl (by omega) (by omega) rfl (by omega) (by omega) rfl (by omega) (by omega) kk
                  · exact lf_1_216 hlt B hX hbl hbA hF (eq_of_iv (n := 3) rfl (by omega) (by omega)) rfl (by omega) (by omega) rfl (by omega) (by omega) rfl (by omega) (by omega) rfl (by omega) (by omega) kk
              · by_cases h8 : (xs 2).toInt < (20 : Int)
                · by_cases h9 : (xs 3).toInt < (0 : Int)
                  · exact lf_1_217 hlt B hX hbl hbA hF (eq_of_iv (n := 3) rfl (by omega) (by omega)) rfl (by omega) (by omega) rfl (by omega) (by omega) rfl (by omega) (by omega) rfl (by omega) (by omega) kk
                  · by_cases h10 : (xs 3).toInt < (18 : Int)
                    · by_cases h11 : (xs 4).toInt < (0 : Int)
                      · exact lf_1_218 hlt B hX hbl hbA hF (eq_of_iv (n := 3) rfl (by omega) (by omega)) rfl (by omega) (by omega) rfl (by omega) (by omega) rfl (by omega) (by omega) rfl (by omega) (by omega) kk
                      · by_cases h12 : (xs 4).toInt < (100 : Int)
                        · by_cases h13 : (xs 5).toInt < (0 : Int)
                          · exact lf_1_219 hlt B hX hbl hbA hF (eq_of_iv (n := 3) rfl (by omega) (by omega)) rfl (by omega) (by omega) rfl (by omega) (by omega) rfl (by omega) (by omega) rfl (by omega) (by omega) kk
                          · by_cases h14 : (xs 5).toInt < (100 : Int)
                            · exact lf_1_220 hlt B hX hbl hbA hF (eq_of_iv (n := 3) rfl (by omega) (by omega)) rfl (by omega) (by omega) rfl (by omega) (by omega) rfl (by omega) (by omega) rfl (by omega) (by omega) kk
                            · exact lf_1_221 hlt B hX hbl hbA hF (eq_of_iv (n := 3) rfl (by omega) (by omega)) rfl (by omega) (by omega) rfl (by omega) (by omega) rfl (by omega) (by omega) rfl (by omega) (by omega) kk
                        · exact lf_1_222 hlt B hX hbl hbA hF (eq_of_iv (n := 3) rfl (by omega) (by omega)) rfl (by omega) (by omega) rfl (by omega) (by omega) rfl (by omega) (by omega) rfl (by omega) (by omega) kk
                    · exact lf_1_223 hlt B hX hbl hbA hF (eq_of_iv (n := 3) rfl (by omega) (by omega)) rfl (by omega) (by omega) rfl (by omega) (by omega) rfl (by omega) (by omega) rfl (by omega) (by omega) kk
                · by_cases h9 : (xs 3).toInt < (0 : Int)
                  · exact lf_1_224 hlt B hX hbl hbA hF (eq_of_iv (n := 3) rfl (by omega) (by omega)) rfl (by omega) (by omega) rfl (by omega) (by omega) rfl (by omega) (by omega) rfl (by omega) (by omega) kk
                  · by_cases h10 : (xs 3).toInt < (18 : Int)
                    · by_cases h11 : (xs 4).toInt < (0 : Int)
                      · exact lf_1_225 hlt B hX hbl hbA hF (eq_of_iv (n := 3) rfl (by omega) (by omega)) rfl (by omega) (by omega) rfl (by omega) (by omega) rfl (by omega) (by omega) rfl (by omega) (by omega) kk
                      · by_cases h12 : (xs 4).toInt < (100 : Int)
                        · by_cases h13 : (xs 5).toInt < (0 : Int)
                          · exact lf_1_226 hlt B hX hbl hbA hF (eq_of_iv (n := 3) rfl (by omega) (by omega)) rfl (by omega) (by omega) rfl (by omega) (by omega) rfl (by omega) (by omega) rfl (by omega) (by omega) kk
                          · by_cases h14 : (xs 5).toInt < (100 : Int)
                            · exact lf_1_227 hlt B hX hbl hbA hF (eq_of_iv (n := 3) rfl (by omega) (by omega)) rfl (by omega) (by omega) rfl (by omega) (by omega) rfl (by omega) (by omega) rfl (by omega) (by omega) kk
                            · exact lf_1_228 hlt B hX hbl hbA hF (eq_of_iv (n := 3) rfl (by omega) (by omega)) rfl (by omega) (by omega) rfl (by omega) (by omega) rfl (by omega) (by omega) rfl (by omega) (by omega) kk
                        · exact lf_1_229 hlt B hX hbl hbA hF (eq_of_iv (n := 3) rfl (by omega) (by omega)) rfl (by omega) (by omega) rfl (by omega) (by omega) rfl (by omega) (by omega) rfl (by omega) (by omega) kk
                    · exact lf_1_230 hlt B hX hbl hbA hF (eq_of_iv (n := 3) rfl (by omega) (by omega)) rfl (by omega) (by omega) rfl (by omega) (by omega) rfl (by omega) (by omega) rfl (by omega) (by omega) kk
            · by_cases h7 : (xs 1).toInt < (5 : Int)
              · by_cases h8 : (xs 2).toInt < (0 : Int)
                · by_cases h9 : (xs 3).toInt < (0 : Int)
                  · exact lf_1_231 hlt B hX hbl hbA hF (eq_of_iv (n := 4) rfl (by omega) (by omega)) rfl (by omega) (by omega) rfl (by omega) (by omega) rfl (by omega) (by omega) rfl (by omega) (by omega) kk
                  · by_cases h10 : (xs 3).toInt < (18 : Int)
                    · by_cases h11 : (xs 4).toInt < (0 : Int)
                      · exact lf_1_232 hlt B hX hbl hbA hF (eq_of_iv (n := 4) rfl (by omega) (by omega)) rfl (by omega) (by omega) rfl (by omega) (by omega) rfl (by omega) (by omega) rfl (by omega) (by omega) kk
                      · by_cases h12 : (xs 4).toInt < (100 : Int)
                        · by_cases h13 : (xs 5).toInt < (0 : Int)
                          · exact lf_1_233 hlt B hX hbl hbA hF (eq_of_iv (n := 4) rfl (by omega) (by omega)) rfl (by omega) (by omega) rfl (by omega) (by omega) rfl (by omega) (by omega) rfl (by omega) (by omega) kk
                          · by_cases h14 : (xs 5).toInt < (100 : Int)
                            · exact lf_1_234 hlt B hX hbl hbA hF (eq_of_iv (n := 4) rfl (by omega) (by omega)) rfl (by omega) (by omega) rfl (by omega) (by omega) rfl (by omega) (by omega) rfl (by omega) (by omega) kk
                            · exact lf_1_235 hlt B hX hbl hbA hF (eq_of_iv (n := 4) rfl (by omega) (by omega)) rfl (by omega) (by omega) rfl (by omega) (by omega) rfl (by omega) (by omega) rfl (by omega) (by omega) kk
                        · exact lf_1_236 hlt B hX hbl hbA hF (eq_of_iv (n := 4) rfl (by omega) (by omega)) rfl (by omega) (by omega) rfl (by omega) (by omega) rfl (by omega) (by omega) rfl (by omega) (by omega) kk
                    · exact lf_1_237 hlt B hX hbl hbA hF (eq_of_iv (n := 4) rfl (by omega) (by omega)) rfl (by omega) (by omega) rfl (by omega) (by omega) rfl (by omega) (by omega) rfl (by omega) (by omega) kk
                · by_cases h9 : (xs 2).toInt < (20 : Int)
                  · by_cases h10 : (xs 3).toInt < (0 : Int)
                    · exact lf_1_238 hlt B hX hbl hbA hF (eq_of_iv (n := 4) rfl (by omega) (by omega)) rfl (by omega) (by omega) rfl (by omega) (by omega) rfl (by omega) (by omega) rfl (by omega) (by omega) kk
                    · by_cases h11 : (xs 3).toInt < (18 : Int)
                      · by_cases h12 : (xs 4).toInt < (0 : Int)
                        · exact lf_1_239 hlt B hX hbl hbA hF (eq_of_iv (n := 4) rfl (by omega) (by omega)) rfl (by omega) (by omega) rfl (by omega) (by omega) rfl (by omega) (by omega) rfl (by omega) (by omega) kk
                        · by_cases h13 : (xs 4).toInt < (100 : Int)
                          · by_cases h14 : (xs 5).toInt < (0 : Int)
                            · exact lf_1_240 hlt B hX hbl hbA hF (eq_of_iv (n := 4) rfl (by omega) (by omega)) rfl (by omega) (by omega) rfl (by omega) (by omega) rfl (by omega) (by omega) rfl (by omega) (by omega) kk
                            · by_cases h15 : (xs 5).toInt < (100 : Int)
                              · exact lf_1_241 hlt B hX hbl hbA hF (eq_of_iv (n := 4) rfl (by omega) (by omega)) rfl (by omega) (by omega) rfl (by omega) (by omega) rfl (by omega) (by omega) rfl (by omega) (by omega) kk
                              · exact lf_1_242 hlt B hX hbl hbA hF (eq_of_iv (n := 4) rfl (by omega) (by omega)) rfl (by omega) (by omega) rfl (by omega) (by omega) rfl (by omega) (by omega) rfl (by omega) (by omega) kk
                          · exact lf_1_243 hlt B hX hbl hbA hF (eq_of_iv (n := 4) rfl (by omega) (by omega)) rfl (by omega) (by omega) rfl (by omega) (by omega) rfl (by omega) (by omega) rfl (by omega) (by omega) kk
                      · exact lf_1_244 hlt B hX hbl hbA hF (eq_of_iv (n := 4) rfl (by omega) (by omega)) rfl (by omega) (by omega) rfl (by omega) (by omega) rfl (by omega) (by omega) rfl (by omega) (by omega) kk
                  · by_cases h10 : (xs 3).toInt < (0 : Int)
                    · exact lf_1_245 hlt B hX hbl hbA hF (eq_of_iv (n := 4) rfl (by omega) (by omega)) rfl (by omega) (by omega) rfl (by omega) (by omega) rfl (by omega) (by omega) rfl (by omega) (by omega) kk
                    · by_cases h11 : (xs 3).toInt < (18 : Int)
                      · by_cases h12 : (xs 4).toInt < (0 : Int)
                        · exact lf_1_246 hlt B hX hbl hbA hF (eq_of_iv (n := 4) rfl (by omega) (by omega)) rfl (by omega) (by omega) rfl (by omega) (by omega) rfl (by omega) (by omega) rfl (by omega) (by omega) kk
                        · by_cases h13 : (xs 4).toInt < (100 : Int)
                          · by_cases h14 : (xs 5).toInt < (0 : Int)
                            · exact lf_1_247 hlt B hX hbl hbA hF (eq_of_iv (n := 4) rfl (by omega) (by omega)) rfl (by omega) (by omega) rfl (by omega) (by omega) rfl (by omega) (by omega) rfl (by omega) (by omega) kk
                            · by_cases h15 : (xs 5).toInt < (100 : Int)
                              · exact lf_1_248 hlt B hX hbl hbA hF (eq_of_iv (n := 4) rfl (by omega) (by omega)) rfl (by omega) (by omega) rfl (by omega) (by omega) rfl (by omega) (by omega) rfl (by omega) (by omega) kk
                              · exact lf_1_249 hlt B hX hbl hbA hF (eq_of_iv (n := 4) rfl (by omega) (by omega)) rfl (by omega) (by omega) rfl (by omega) (by omega) rfl (by omega) (by omega) rfl (by omega) (by omega) kk
                          · exact lf_1_250 hlt B hX hbl hbA hF (eq_of_iv (n := 4) rfl (by omega) (by omega)) rfl (by omega) (by omega) rfl (by omega) (by omega) rfl (by omega) (by omega) rfl (by omega) (by omega) kk
                      · exact lf_1_251 hlt B hX hbl hbA hF (eq_of_iv (n := 4) rfl (by omega) (by omega)) rfl (by omega) (by omega) rfl (by omega) (by omega) rfl (by omega) (by omega) rfl (by omega) (by omega) kk
              · by_cases h8 : (xs 2).toInt < (0 : Int)
                · by_cases h9 : (xs 3).toInt < (0 : Int)
                  · exact lf_1_252 hlt B hX hbl hbA hF (eq_of_iv (n := 5) rfl (by omega) (by omega)) rfl (by omega) (by omega) rfl (by omega) (by omega) rfl (by omega) (by omega) rfl (by omega) (by omega) kk
                  · by_cases h10 : (xs 3).toInt < (18 : Int)
                    · by_cases h11 : (xs 4).toInt < (0 : Int)
                      · exact lf_1_253 hlt B hX hbl hbA hF (eq_of_iv (n := 5) rfl (by omega) (by omega)) rfl (by omega) (by omega) rfl (by omega) (by omega) rfl (by omega) (by omega) rfl (by omega) (by omega) kk
                      · by_cases h12 : (xs 4).toInt < (100 : Int)
                        · by_cases h13 : (xs 5).toInt < (0 : Int)
                          · exact lf_1_254 hlt B hX hbl hbA hF (eq_of_iv (n := 5) rfl (by omega) (by omega)) rfl (by omega) (by omega) rfl (by omega) (by omega) rfl (by omega) (by omega) rfl (by omega) (by omega) kk
                          · by_cases h14 : (xs 5).toInt < (100 : Int)
                            · exact lf_1_255 hlt B hX hbl hbA hF (eq_of_iv (n := 5) rfl (by omega) (by omega)) rfl (by omega) (by omega) rfl (by omega) (by omega) rfl (by omega) (by omega) rfl (by omega) (by omega) kk
                            · exact lf_1_256 hlt B hX hbl hbA hF (eq_of_iv (n := 5) rfl (by omega) (by omega)) rfl (by omega) (by omega) rfl (by omega) (by omega) rfl (by omega) (by omega) rfl (by omega) (by omega) kk
                        · exact lf_1_257 hlt B hX hbl hbA hF (eq_of_iv (n := 5) rfl (by omega) (by omega)) rfl (by omega) (by omega) rfl (by omega) (by omega) rfl (by omega) (by omega) rfl (by omega) (by omega) kk
                    · exact lf_1_258 hlt B hX hbl hbA hF (eq_of_iv (n := 5) rfl (by omega) (by omega)) rfl (by omega) (by omega) rfl (by omega) (by omega) rfl (by omega) (by omega) rfl (by omega) (by omega) kk
                · by_cases h9 : (xs 2).toInt < (20 : Int)
                  · by_cases h10 : (xs 3).toInt < (0 : Int)
                    · exact lf_1_259 hlt B hX hbl hbA hF (eq_of_iv (n := 5) rfl (by omega) (by omega)) rfl (by omega) (by omega) rfl (by omega) (by omega) rfl (by omega) (by omega) rfl (by omega) (by omega) kk
                    · by_cases h11 : (xs 3).toInt < (18 : Int)
                      · by_cases h12 : (xs 4).toInt < (0 : Int)
                        · exact lf_1_260 hlt B hX hbl hbA hF (eq_of_iv (n := 5) rfl (by omega) (by omega)) rfl (by omega) (by omega) rfl (by omega) (by omega) rfl (by omega) (by omega) rfl (by omega) (by omega) kk
                        · by_cases h13 : (xs 4).toInt < (100 : Int)
                          · by_cases h14 : (xs 5).toInt < (0 : Int)
                            · exact lf_1_261 hlt B hX hbl hbA hF (eq_of_iv (n := 5) rfl (by omega) (by omega)) rfl (by omega) (by omega) rfl (by omega) (by omega) rfl (by omega) (by omega) rfl (by omega) (by omega) kk
                            · by_cases h15 : (xs 5).toInt < (100 : Int)
                              · exact lf_1_262 hlt B hX hbl hbA hF (eq_of_iv (n := 5) rfl (by omega) (by omega)) rfl (by omega) (by omega) rfl (by omega) (by omega) rfl (by omega) (by omega) rfl (by omega) (by omega) kk
                              · exact lf_1_263 hlt B hX hbl hbA hF (eq_of_iv (n := 5) rfl (by omega) (by omega)) rfl (by omega) (by omega) rfl (by omega) (by omega) rfl (by omega) (by omega) rfl (by omega) (by omega) kk
                          · exact lf_1_264 hlt B hX hbl hbA hF (eq_of_iv (n := 5) rfl (by omega) (by omega)) rfl (by omega) (by omega) rfl (by omega) (by omega) rfl (by omega) (by omega) rfl (by omega) (by omega) kk
                      · exact lf_1_265 hlt B hX hbl hbA hF (eq_of_iv (n := 5) rfl (by omega) (by omega)) rfl (by omega) (by omega) rfl (by omega) (by omega) rfl (by omega) (by omega) rfl (by omega) (by omega) kk
                  · by_cases h10 : (xs 3).toInt < (0 : Int)
                    · exact lf_1_266 hlt B hX hbl hbA hF (eq_of_iv (n := 5) rfl (by omega) (by omega)) rfl (by omega) (by omega) rfl (by omega) (by omega) rfl (by omega) (by omega) rfl (by omega) (by omega) kk
                    · by_cases h11 : (xs 3).toInt < (18 : Int)
                      · by_cases h12 : (xs 4).toInt < (0 : Int)
                        · exact lf_1_267 hlt B hX hbl hbA hF (eq_of_iv (n := 5) rfl (by omega) (by omega)) rfl (by omega) (by omega) rfl (by omega) (by omega) rfl (by omega) (by omega) rfl (by omega) (by omega) kk
                        · by_cases h13 : (xs 4).toInt < (100 : Int)
                          · by_cases h14 : (xs 5).toInt < (0 : Int)
                            · exact lf_1_268 hlt B hX hbl hbA hF (eq_of_iv (n := 5) rfl (by omega) (by omega)) rfl (by omega) (by omega) rfl (by omega) (by omega) rfl (by omega) (by omega) rfl (by omega) (by omega) kk
                            · by_cases h15 : (xs 5).toInt < (100 : Int)
                              · exact lf_1_269 hlt B hX hbl hbA hF (eq_of_iv (n := 5) rfl (by omega) (by omega)) rfl (by omega) (by omega) rfl (by omega) (by omega) rfl (by omega) (by omega) rfl (by omega) (by omega) kk
                              · exact lf_1_270 hlt B hX hbl hbA hF (eq_of_iv (n := 5) rfl (by omega) (by omega)) rfl (by omega) (by omega) rfl (by omega) (by omega) rfl (by omega) (by omega) rfl (by omega) (by omega) kk
                          · exact lf_1_271 hlt B hX hbl hbA hF (eq_of_iv (n := 5) rfl (by omega) (by omega)) rfl (by omega) (by omega) rfl (by omega) (by omega) rfl (by omega) (by omega) rfl (by omega) (by omega) kk
                      · exact lf_1_272 hlt B hX hbl hbA hF (eq_of_iv (n := 5) rfl (by omega) (by omega)) rfl (by omega) (by omega) rfl (by omega) (by omega) rfl (by omega) (by omega) rfl (by omega) (by omega) kk
    · by_cases h3 : (xs 3).toInt < (0 : Int)
      · exact lf_1_273 hlt B hX hbl hbA hF rfl (by omega) (by omega) rfl (by omega) (by omega) rfl (by omega) (by omega) rfl (by omega) (by omega) rfl (by omega) (by omega) kk
      · by_cases h4 : (xs 3).toInt < (18 : Int)
        · by_cases h5 : (xs 4).toInt < (0 : Int)
          · exact lf_1_274 hlt B hX hbl hbA hF rfl (by omega) (by omega) rfl (by omega) (by omega) rfl (by omega) (by omega) rfl (by omega) (by omega) rfl (by omega) (by omega) kk
          · by_cases h6 : (xs 4).toInt < (100 : Int)
            · by_cases h7 : (xs 5).toInt < (0 : Int)
              · exact lf_1_275 hlt B hX hbl hbA hF rfl (by omega) (by omega) rfl (by omega) (by omega) rfl (by omega) (by omega) rfl (by omega) (by omega) rfl (by omega) (by omega) kk
              · by_cases h8 : (xs 5).toInt < (100 : Int)
                · exact lf_1_276 hlt B hX hbl hbA hF rfl (by omega) (by omega) rfl (by omega) (by omega) rfl (by omega) (by omega) rfl (by omega) (by omega) rfl (by omega) (by omega) kk
                · exact lf_1_277 hlt B hX hbl hbA hF rfl (by omega) (by omega) rfl (by omega) (by omega) rfl (by omega) (by omega) rfl (by omega) (by omega) rfl (by omega) (by omega) kk
            · exact lf_1_278 hlt B hX hbl hbA hF rfl (by omega) (by omega) rfl (by omega) (by omega) rfl (by omega) (by omega) rfl (by omega) (by omega) rfl (by omega) (by omega) kk
        · exact lf_1_279 hlt B hX hbl hbA hF rfl (by omega) (by omega) rfl (by omega) (by omega) rfl (by omega) (by omega) rfl (by omega) (by omega) rfl (by omega) (by omega) kk
theorem cs_2 {p : Program} {l : Launch} {e : Env} {s : State} {m : MethodId} {args : Array Value} {below : List Frame} {meth : Method} {c : Code} {g : gx_T} {Q : State → Prop} {σ : sx_T} {b t bS : Nat} {xs : Nat → Int32} (hlt : l.stackTraces = false) (B : zx_B p s m args meth c code RL 8 g) (hX : va_X bS 6 xs s s.heap) (hbl : bS < s.heap.size) (hbA : ¬ gx_b g ≤ bS) (hF : fz_P b t σ) (kk : ∀ σ', zx p l e room_1 s m args below meth c g 8 600002 7302232 Q σ' 1395 [(4, .int 0), (0, .ref bS)] []) : zx p l e room_1 s m args below meth c g 8 500 100000 Q σ 356 [(4, .int 0), (3, .ref (b + 431)), (2, .ref (b + 405)), (1, .ref (b + 0)), (0, .ref bS)] [] := by
  have b1 := Int32.le_toInt (xs 1)
  have c1 := Int32.toInt_lt (xs 1)
  have b2 := Int32.le_toInt (xs 2)
  have c2 := Int32.toInt_lt (xs 2)
  by_cases h1 : (xs 1).toInt < (0 : Int)
  · by_cases h2 : (xs 2).toInt < (-999 : Int)
    · exact lf_2_280 hlt B hX hbl hbA hF rfl (by omega) (by omega) rfl (by omega) (by omega) kk
    · by_cases h3 : (xs 2).toInt < (1000 : Int)
      · exact lf_2_281 hlt B hX hbl hbA hF rfl (by omega) (by omega) rfl (by omega) (by omega) kk
      · exact lf_2_282 hlt B hX hbl hbA hF rfl (by omega) (by omega) rfl (by omega) (by omega) kk
  · by_cases h2 : (xs 1).toInt < (6 : Int)
    · by_cases h3 : (xs 1).toInt < (1 : Int)
      · by_cases h4 : (xs 2).toInt < (-999 : Int)
        · exact lf_2_283 hlt B hX hbl hbA hF (eq_of_iv (n := 0) rfl (by omega) (by omega)) rfl (by omega) (by omega) kk
        · by_cases h5 : (xs 2).toInt < (1000 : Int)
          · by_cases h6 : (xs 2).toInt < (0 : Int)
            · exact lf_2_284 hlt B hX hbl hbA hF (eq_of_iv (n := 0) rfl (by omega) (by omega)) rfl (by omega) (by omega) kk
            · exact lf_2_285 hlt B hX hbl hbA hF (eq_of_iv (n := 0) rfl (by omega) (by omega)) rfl (by omega) (by omega) kk
          · exact lf_2_286 hlt B hX hbl hbA hF (eq_of_iv (n := 0) rfl (by omega) (by omega)) rfl (by omega) (by omega) kk
      · by_cases h4 : (xs 1).toInt < (2 : Int)
        · by_cases h5 : (xs 2).toInt < (-999 : Int)
          · exact lf_2_287 hlt B hX hbl hbA hF (eq_of_iv (n := 1) rfl (by omega) (by omega)) rfl (by omega) (by omega) kk
          · by_cases h6 : (xs 2).toInt < (1000 : Int)
            · by_cases h7 : (xs 2).toInt < (0 : Int)
              · exact lf_2_288 hlt B hX hbl hbA hF (eq_of_iv (n := 1) rfl (by omega) (by omega)) rfl (by omega) (by omega) kk
              · exact lf_2_289 hlt B hX hbl hbA hF (eq_of_iv (n := 1) rfl (by omega) (by omega)) rfl (by omega) (by omega) kk
            · exact lf_2_290 hlt B hX hbl hbA hF (eq_of_iv (n := 1) rfl (by omega) (by omega)) rfl (by omega) (by omega) kk
        · by_cases h5 : (xs 1).toInt < (3 : Int)
          · by_cases h6 : (xs 2).toInt < (-999 : Int)
            · exact lf_2_291 hlt B hX hbl hbA hF (eq_of_iv (n := 2) rfl (by omega) (by omega)) rfl (by omega) (by omega) kk
            · by_cases h7 : (xs 2).toInt < (1000 : Int)
              · by_cases h8 : (xs 2).toInt < (0 : Int)
                · exact lf_2_292 hlt B hX hbl hbA hF (eq_of_iv (n := 2) rfl (by omega) (by omega)) rfl (by omega) (by omega) kk
                · exact lf_2_293 hlt B hX hbl hbA hF (eq_of_iv (n := 2) rfl (by omega) (by omega)) rfl (by omega) (by omega) kk
              · exact lf_2_294 hlt B hX hbl hbA hF (eq_of_iv (n := 2) rfl (by omega) (by omega)) rfl (by omega) (by omega) kk
          · by_cases h6 : (xs 1).toInt < (4 : Int)
            · by_cases h7 : (xs 2).toInt < (-999 : Int)
              · exact lf_2_295 hlt B hX hbl hbA hF (eq_of_iv (n := 3) rfl (by omega) (by omega)) rfl (by omega) (by omega) kk
              · by_cases h8 : (xs 2).toInt < (1000 : Int)
                · by_cases h9 : (xs 2).toInt < (0 : Int)
                  · exact lf_2_296 hlt B hX hbl hbA hF (eq_of_iv (n := 3) rfl (by omega) (by omega)) rfl (by omega) (by omega) kk
                  · exact lf_2_297 hlt B hX hbl hbA hF (eq_of_iv (n := 3) rfl (by omega) (by omega)) rfl (by omega) (by omega) kk
                · exact lf_2_298 hlt B hX hbl hbA hF (eq_of_iv (n := 3) rfl (by omega) (by omega)) rfl (by omega) (by omega) kk
            · by_cases h7 : (xs 1).toInt < (5 : Int)
              · by_cases h8 : (xs 2).toInt < (-999 : Int)
                · exact lf_2_299 hlt B hX hbl hbA hF (eq_of_iv (n := 4) rfl (by omega) (by omega)) rfl (by omega) (by omega) kk
                · by_cases h9 : (xs 2).toInt < (1000 : Int)
                  · by_cases h10 : (xs 2).toInt < (0 : Int)
                    · exact lf_2_300 hlt B hX hbl hbA hF (eq_of_iv (n := 4) rfl (by omega) (by omega)) rfl (by omega) (by omega) kk
                    · exact lf_2_301 hlt B hX hbl hbA hF (eq_of_iv (n := 4) rfl (by omega) (by omega)) rfl (by omega) (by omega) kk
                  · exact lf_2_302 hlt B hX hbl hbA hF (eq_of_iv (n := 4) rfl (by omega) (by omega)) rfl (by omega) (by omega) kk
              · by_cases h8 : (xs 2).toInt < (-999 : Int)
                · exact lf_2_303 hlt B hX hbl hbA hF (eq_of_iv (n := 5) rfl (by omega) (by omega)) rfl (by omega) (by omega) kk
                · by_cases h9 : (xs 2).toInt < (1000 : Int)
                  · by_cases h10 : (xs 2).toInt < (0 : Int)
                    · exact lf_2_304 hlt B hX hbl hbA hF (eq_of_iv (n := 5) rfl (by omega) (by omega)) rfl (by omega) (by omega) kk
                    · exact lf_2_305 hlt B hX hbl hbA hF (eq_of_iv (n := 5) rfl (by omega) (by omega)) rfl (by omega) (by omega) kk
                  · exact lf_2_306 hlt B hX hbl hbA hF (eq_of_iv (n := 5) rfl (by omega) (by omega)) rfl (by omega) (by omega) kk
    · by_cases h3 : (xs 2).toInt < (-999 : Int)
      · exact lf_2_307 hlt B hX hbl hbA hF rfl (by omega) (by omega) rfl (by omega) (by omega) kk
      · by_cases h4 : (xs 2).toInt < (1000 : Int)
        · exact lf_2_308 hlt B hX hbl hbA hF rfl (by omega) (by omega) rfl (by omega) (by omega) kk
        · exact lf_2_309 hlt B hX hbl hbA hF rfl (by omega) (by omega) rfl (by omega) (by omega) kk
theorem cs_3 {p : Program} {l : Launch} {e : Env} {s : State} {m : MethodId} {args : Array Value} {below : List Frame} {meth : Method} {c : Code} {g : gx_T} {Q : State → Prop} {σ : sx_T} {b t bS : Nat} {xs : Nat → Int32} (hlt : l.stackTraces = false) (B : zx_B p s m args meth c code RL 8 g) (hX : va_X bS 6 xs s s.heap) (hbl : bS < s.heap.size) (hbA : ¬ gx_b g ≤ bS) (hF : fz_P b t σ) (kk : ∀ σ', zx p l e room_1 s m args below meth c g 8 600002 7302232 Q σ' 1395 [(4, .int 0), (0, .ref bS)] []) : zx p l e room_1 s m args below meth c g 8 500 100000 Q σ 424 [(4, .int 0), (3, .ref (b + 431)), (2, .ref (b + 405)), (1, .ref (b + 0)), (0, .ref bS)] [] := by
  have b1 := Int32.le_toInt (xs 1)
  have c1 := Int32.toInt_lt (xs 1)
  have b2 := Int32.le_toInt (xs 2)
  have c2 := Int32.toInt_lt (xs 2)
  have b3 := Int32.le_toInt (xs 3)
  have c3 := Int32.toInt_lt (xs 3)
  by_cases h1 : (xs 1).toInt < (0 : Int)
  · by_cases h2 : (xs 2).toInt < (0 : Int)
    · exact lf_3_310 hlt B hX hbl hbA hF rfl (by omega) (by omega) rfl (by omega) (by omega) rfl (by omega) (by omega) kk
    · by_cases h3 : (xs 2).toInt < (100 : Int)
      · by_cases h4 : (xs 3).toInt < (0 : Int)
        · exact lf_3_311 hlt B hX hbl hbA hF rfl (by omega) (by omega) rfl (by omega) (by omega) rfl (by omega) (by omega) kk
        · by_cases h5 : (xs 3).toInt < (100 : Int)
          · exact lf_3_312 hlt B hX hbl hbA hF rfl (by omega) (by omega) rfl (by omega) (by omega) rfl (by omega) (by omega) kk
          · exact lf_3_313 hlt B hX hbl hbA hF rfl (by omega) (by omega) rfl (by omega) (by omega) rfl (by omega) (by omega) kk
      · exact lf_3_314 hlt B hX hbl hbA hF rfl (by omega) (by omega) rfl (by omega) (by omega) rfl (by omega) (by omega) kk
  · by_cases h2 : (xs 2).toInt < (0 : Int)
    · exact lf_3_315 hlt B hX hbl hbA hF rfl (by omega) (by omega) rfl (by omega) (by omega) rfl (by omega) (by omega) kk
    · by_cases h3 : (xs 2).toInt < (100 : Int)
      · by_cases h4 : (xs 3).toInt < (0 : Int)
        · exact lf_3_316 hlt B hX hbl hbA hF rfl (by omega) (by omega) rfl (by omega) (by omega) rfl (by omega) (by omega) kk
        · by_cases h5 : (xs 3).toInt < (100 : Int)
          · exact lf_3_317 hlt B hX hbl hbA hF rfl (by omega) (by omega) rfl (by omega) (by omega) rfl (by omega) (by omega) kk
          · exact lf_3_318 hlt B hX hbl hbA hF rfl (by omega) (by omega) rfl (by omega) (by omega) rfl (by omega) (by omega) kk
      · exact lf_3_319 hlt B hX hbl hbA hF rfl (by omega) (by omega) rfl (by omega) (by omega) rfl (by omega) (by omega) kk
theorem cs_4 {p : Program} {l : Launch} {e : Env} {s : State} {m : MethodId} {args : Array Value} {below : List Frame} {meth : Method} {c : Code} {g : gx_T} {Q : State → Prop} {σ : sx_T} {b t bS : Nat} {xs : Nat → Int32} (hlt : l.stackTraces = false) (B : zx_B p s m args meth c code RL 8 g) (hX : va_X bS 6 xs s s.heap) (hbl : bS < s.heap.size) (hbA : ¬ gx_b g ≤ bS) (hF : fz_P b t σ) (kk : ∀ σ', zx p l e room_1 s m args below meth c g 8 600002 7302232 Q σ' 1395 [(4, .int 0), (0, .ref bS)] []) : zx p l e room_1 s m args below meth c g 8 500 100000 Q σ 511 [(4, .int 0), (3, .ref (b + 431)), (2, .ref (b + 405)), (1, .ref (b + 0)), (0, .ref bS)] [] := by
  have b1 := Int32.le_toInt (xs 1)
  have c1 := Int32.toInt_lt (xs 1)
  by_cases h1 : (xs 1).toInt < (0 : Int)
  · exact lf_4_320 hlt B hX hbl hbA hF rfl (by omega) (by omega) kk
  · exact lf_4_321 hlt B hX hbl hbA hF rfl (by omega) (by omega) kk
theorem cs_5 {p : Program} {l : Launch} {e : Env} {s : State} {m : MethodId} {args : Array Value} {below : List Frame} {meth : Method} {c : Code} {g : gx_T} {Q : State → Prop} {σ : sx_T} {b t bS : Nat} {xs : Nat → Int32} (hlt : l.stackTraces = false) (B : zx_B p s m args meth c code RL 8 g) (hX : va_X bS 6 xs s s.heap) (hbl : bS < s.heap.size) (hbA : ¬ gx_b g ≤ bS) (hF : fz_P b t σ) (kk : ∀ σ', zx p l e room_1 s m args below meth c g 8 600002 7302232 Q σ' 1395 [(4, .int 0), (0, .ref bS)] []) : zx p l e room_1 s m args below meth c g 8 500 100000 Q σ 574 [(4, .int 0), (3, .ref (b + 431)), (2, .ref (b + 405)), (1, .ref (b + 0)), (0, .ref bS)] [] := by
  have b1 := Int32.le_toInt (xs 1)
  have c1 := Int32.toInt_lt (xs 1)
  have b2 := Int32.le_toInt (xs 2)
  have c2 := Int32.toInt_lt (xs 2)
  by_cases h1 : (xs 1).toInt < (0 : Int)
  · exact lf_5_322 hlt B hX hbl hbA hF rfl (by omega) (by omega) rfl (by omega) (by omega) kk
  · exact lf_5_323 hlt B hX hbl hbA hF rfl (by omega) (by omega) rfl (by omega) (by omega) kk
theorem cs_6 {p : Program} {l : Launch} {e : Env} {s : State} {m : MethodId} {args : Array Value} {below : List Frame} {meth : Method} {c : Code} {g : gx_T} {Q : State → Prop} {σ : sx_T} {b t bS : Nat} {xs : Nat → Int32} (hlt : l.stackTraces = false) (B : zx_B p s m args meth c code RL 8 g) (hX : va_X bS 6 xs s s.heap) (hbl : bS < s.heap.size) (hbA : ¬ gx_b g ≤ bS) (hF : fz_P b t σ) (kk : ∀ σ', zx p l e room_1 s m args below meth c g 8 600002 7302232 Q σ' 1395 [(4, .int 0), (0, .ref bS)] []) : zx p l e room_1 s m args below meth c g 8 500 100000 Q σ 642 [(4, .int 0), (3, .ref (b + 431)), (2, .ref (b + 405)), (1, .ref (b + 0)), (0, .ref bS)] [] := by
  exact lf_6_324 hlt B hX hbl hbA hF  kk
theorem cs_7 {p : Program} {l : Launch} {e : Env} {s : State} {m : MethodId} {args : Array Value} {below : List Frame} {meth : Method} {c : Code} {g : gx_T} {Q : State → Prop} {σ : sx_T} {b t bS : Nat} {xs : Nat → Int32} (hlt : l.stackTraces = false) (B : zx_B p s m args meth c code RL 8 g) (hX : va_X bS 6 xs s s.heap) (hbl : bS < s.heap.size) (hbA : ¬ gx_b g ≤ bS) (hF : fz_P b t σ) (kk : ∀ σ', zx p l e room_1 s m args below meth c g 8 600002 7302232 Q σ' 1395 [(4, .int 0), (0, .ref bS)] []) : zx p l e room_1 s m args below meth c g 8 500 100000 Q σ 655 [(4, .int 0), (3, .ref (b + 431)), (2, .ref (b + 405)), (1, .ref (b + 0)), (0, .ref bS)] [] := by
  exact lf_7_325 hlt B hX hbl hbA hF  kk
theorem cs_8 {p : Program} {l : Launch} {e : Env} {s : State} {m : MethodId} {args : Array Value} {below : List Frame} {meth : Method} {c : Code} {g : gx_T} {Q : State → Prop} {σ : sx_T} {b t bS : Nat} {xs : Nat → Int32} (hlt : l.stackTraces = false) (B : zx_B p s m args meth c code RL 8 g) (hX : va_X bS 6 xs s s.heap) (hbl : bS < s.heap.size) (hbA : ¬ gx_b g ≤ bS) (hF : fz_P b t σ) (kk : ∀ σ', zx p l e room_1 s m args below meth c g 8 600002 7302232 Q σ' 1395 [(4, .int 0), (0, .ref bS)] []) : zx p l e room_1 s m args below meth c g 8 500 100000 Q σ 668 [(4, .int 0), (3, .ref (b + 431)), (2, .ref (b + 405)), (1, .ref (b + 0)), (0, .ref bS)] [] := by
  have b1 := Int32.le_toInt (xs 1)
  have c1 := Int32.toInt_lt (xs 1)
  have b2 := Int32.le_toInt (xs 2)
  have c2 := Int32.toInt_lt (xs 2)
  by_cases h1 : (xs 2).toInt < (-999 : Int)
  · exact lf_8_326 hlt B hX hbl hbA hF rfl (by omega) (by omega) rfl (by omega) (by omega) kk
  · by_cases h2 : (xs 2).toInt < (1000 : Int)
    · exact lf_8_327 hlt B hX hbl hbA hF rfl (by omega) (by omega) rfl (by omega) (by omega) kk
    · exact lf_8_328 hlt B hX hbl hbA hF rfl (by omega) (by omega) rfl (by omega) (by omega) kk
theorem cs_9 {p : Program} {l : Launch} {e : Env} {s : State} {m : MethodId} {args : Array Value} {below : List Frame} {meth : Method} {c : Code} {g : gx_T} {Q : State → Prop} {σ : sx_T} {b t bS : Nat} {xs : Nat → Int32} (hlt : l.stackTraces = false) (B : zx_B p s m args meth c code RL 8 g) (hX : va_X bS 6 xs s s.heap) (hbl : bS < s.heap.size) (hbA : ¬ gx_b g ≤ bS) (hF : fz_P b t σ) (kk : ∀ σ', zx p l e room_1 s m args below meth c g 8 600002 7302232 Q σ' 1395 [(4, .int 0), (0, .ref bS)] []) : zx p l e room_1 s m args below meth c g 8 500 100000 Q σ 743 [(4, .int 0), (3, .ref (b + 431)), (2, .ref (b + 405)), (1, .ref (b + 0)), (0, .ref bS)] [] := by
  have b1 := Int32.le_toInt (xs 1)
  have c1 := Int32.toInt_lt (xs 1)
  exact lf_9_329 hlt B hX hbl hbA hF rfl (by omega) (by omega) kk
theorem cs_10 {p : Program} {l : Launch} {e : Env} {s : State} {m : MethodId} {args : Array Value} {below : List Frame} {meth : Method} {c : Code} {g : gx_T} {Q : State → Prop} {σ : sx_T} {b t bS : Nat} {xs : Nat → Int32} (hlt : l.stackTraces = false) (B : zx_B p s m args meth c code RL 8 g) (hX : va_X bS 6 xs s s.heap) (hbl : bS < s.heap.size) (hbA : ¬ gx_b g ≤ bS) (hF : fz_P b t σ) (kk : ∀ σ', zx p l e room_1 s m args below meth c g 8 600002 7302232 Q σ' 1395 [(4, .int 0), (0, .ref bS)] []) : zx p l e room_1 s m args below meth c g 8 500 100000 Q σ 768 [(4, .int 0), (3, .ref (b + 431)), (2, .ref (b + 405)), (1, .ref (b + 0)), (0, .ref bS)] [] := by
  have b1 := Int32.le_toInt (xs 1)
  have c1 := Int32.toInt_lt (xs 1)
  exact lf_10_330 hlt B hX hbl hbA hF rfl (by omega) (by omega) kk
theorem cs_11 {p : Program} {l : Launch} {e : Env} {s : State} {m : MethodId} {args : Array Value} {below : List Frame} {meth : Method} {c : Code} {g : gx_T} {Q : State → Prop} {σ : sx_T} {b t bS : Nat} {xs : Nat → Int32} (hlt : l.stackTraces = false) (B : zx_B p s m args meth c code RL 8 g) (hX : va_X bS 6 xs s s.heap) (hbl : bS < s.heap.size) (hbA : ¬ gx_b g ≤ bS) (hF : fz_P b t σ) (kk : ∀ σ', zx p l e room_1 s m args below meth c g 8 600002 7302232 Q σ' 1395 [(4, .int 0), (0, .ref bS)] []) : zx p l e room_1 s m args below meth c g 8 500 100000 Q σ 793 [(4, .int 0), (3, .ref (b + 431)), (2, .ref (b + 405)), (1, .ref (b + 0)), (0, .ref bS)] [] := by
  have b1 := Int32.le_toInt (xs 1)
  have c1 := Int32.toInt_lt (xs 1)
  by_cases h1 : (xs 1).toInt < (1 : Int)
  · exact lf_11_331 hlt B hX hbl hbA hF rfl (by omega) (by omega) kk
  · by_cases h2 : (xs 1).toInt < (51 : Int)
    · by_cases h3 : (xs 1).toInt < (2 : Int)
      · exact lf_11_332 hlt B hX hbl hbA hF (eq_of_iv (n := 1) rfl (by omega) (by omega)) kk
      · by_cases h4 : (xs 1).toInt < (3 : Int)
        · exact lf_11_333 hlt B hX hbl hbA hF (eq_of_iv (n := 2) rfl (by omega) (by omega)) kk
        · by_cases h5 : (xs 1).toInt < (4 : Int)
          · exact lf_11_334 hlt B hX hbl hbA hF (eq_of_iv (n := 3) rfl (by omega) (by omega)) kk
          · by_cases h6 : (xs 1).toInt < (5 : Int)
            · exact lf_11_335 hlt B hX hbl hbA hF (eq_of_iv (n := 4) rfl (by omega) (by omega)) kk
            · by_cases h7 : (xs 1).toInt < (6 : Int)
              · exact lf_11_336 hlt B hX hbl hbA hF (eq_of_iv (n := 5) rfl (by omega) (by omega)) kk
              · by_cases h8 : (xs 1).toInt < (7 : Int)
                · exact lf_11_337 hlt B hX hbl hbA hF (eq_of_iv (n := 6) rfl (by omega) (by omega)) kk
                · by_cases h9 : (xs 1).toInt < (8 : Int)
                  · exact lf_11_338 hlt B hX hbl hbA hF (eq_of_iv (n := 7) rfl (by omega) (by omega)) kk
                  · by_cases h10 : (xs 1).toInt < (9 : Int)
                    · exact lf_11_339 hlt B hX hbl hbA hF (eq_of_iv (n := 8) rfl (by omega) (by omega)) kk
                    · by_cases h11 : (xs 1).toInt < (10 : Int)
                      · exact lf_11_340 hlt B hX hbl hbA hF (eq_of_iv (n := 9) rfl (by omega) (by omega)) kk
                      · by_cases h12 : (xs 1).toInt < (11 : Int)
                        · exact lf_11_341 hlt B hX hbl hbA hF (eq_of_iv (n := 10) rfl (by omega) (by omega)) kk
                        · by_cases h13 : (xs 1).toInt < (12 : Int)
                          · exact lf_11_342 hlt B hX hbl hbA hF (eq_of_iv (n := 11) rfl (by omega) (by omega)) kk
                          · by_cases h14 : (xs 1).toInt < (13 : Int)
                            · exact lf_11_343 hlt B hX hbl hbA hF (eq_of_iv (n := 12) rfl (by omega) (by omega)) kk
                            · by_cases h15 : (xs 1).toInt < (14 : Int)
                              · exact lf_11_344 hlt B hX hbl hbA hF (eq_of_iv (n := 13) rfl (by omega) (by omega)) kk
                              · by_cases h16 : (xs 1).toInt < (15 : Int)
                                · exact lf_11_345 hlt B hX hbl hbA hF (eq_of_iv (n := 14) rfl (by omega) (by omega)) kk
                                · by_cases h17 : (xs 1).toInt < (16 : Int)
                                  · exact lf_11_346 hlt B hX hbl hbA hF (eq_of_iv (n := 15) rfl (by omega) (by omega)) kk
                                  · by_cases h18 : (xs 1).toInt < (17 : Int)
                                    · exact lf_11_347 hlt B hX hbl hbA hF (eq_of_iv (n := 16) rfl (by omega) (by omega)) kk
                                    · by_cases h19 : (xs 1).toInt < (18 : Int)
                                      · exact lf_11_348 hlt B hX hbl hbA hF (eq_of_iv (n := 17) rfl (by omega) (by omega)) kk
                                      · by_cases h20 : (xs 1).toInt < (19 : Int)
                                        · exact lf_11_349 hlt B hX hbl hbA hF (eq_of_iv (n := 18) rfl (by omega) (by omega)) kk
                                        · by_cases h21 : (xs 1).toInt < (20 : Int)
                                          · exact lf_11_350 hlt B hX hbl hbA hF (eq_of_iv (n := 19) rfl (by omega) (by omega)) kk
                                          · by_cases h22 : (xs 1).toInt < (21 : Int)
                                            · exact lf_11_351 hlt B hX hbl hbA hF (eq_of_iv (n := 20) rfl (by omega) (by omega)) kk
                                            · by_cases h23 : (xs 1).toInt < (22 : Int)
                                              · exact lf_11_352 hlt B hX hbl hbA hF (eq_of_iv (n := 21) rfl (by omega) (by omega)) kk
                                              · by_cases h24 : (xs 1).toInt < (23 : Int)
                                                · exact lf_11_353 hlt B hX hbl hbA hF (eq_of_iv (n := 22) rfl (by omega) (by omega)) kk
                                                · by_cases h25 : (xs 1).toInt < (24 : Int)
                                                  · exact lf_11_354 hlt B hX hbl hbA hF (eq_of_iv (n := 23) rfl (by omega) (by omega)) kk
                                                  · by_cases h26 : (xs 1).toInt < (25 : Int)
                                                    · exact lf_11_355 hlt B hX hbl hbA hF (eq_of_iv (n := 24) rfl (by omega) (by omega)) kk
                                                    · by_cases h27 : (xs 1).toInt < (26 : Int)
                                                      · exact lf_11_356 hlt B hX hbl hbA hF (eq_of_iv (n := 25) rfl (by omega) (by omega)) kk
                                                      · by_cases h28 : (xs 1).toInt < (27 : Int)
                                                        · exact lf_11_357 hlt B hX hbl hbA hF (eq_of_iv (n := 26) rfl (by omega) (by omega)) kk
                                                        · by_cases h29 : (xs 1).toInt < (28 : Int)
                                                          · exact lf_11_358 hlt B hX hbl hbA hF (eq_of_iv (n := 27) rfl (by omega) (by omega)) kk
                                                          · by_cases h30 : (xs 1).toInt < (29 : Int)
                                                            · exact lf_11_359 hlt B hX hbl hbA hF (eq_of_iv (n := 28) rfl (by omega) (by omega)) kk
                                                            · by_cases h31 : (xs 1).toInt < (30 : Int)
                                                              · exact lf_11_360 hlt B hX hbl hbA hF (eq_of_iv (n := 29) rfl (by omega) (by omega)) kk
                                                              · by_cases h32 : (xs 1).toInt < (31 : Int)
                                                                · exact lf_11_361 hlt B hX hbl hbA hF (eq_of_iv (n := 30) rfl (by omega) (by omega)) kk
                                                                · by_cases h33 : (xs 1).toInt < (32 : Int)
                                                                  · exact lf_11_362 hlt B hX hbl hbA hF (eq_of_iv (n := 31) rfl (by omega) (by omega)) kk
                                                                  · by_cases h34 : (xs 1).toInt < (33 : Int)
                                                                    · exact lf_11_363 hlt B hX hbl hbA hF (eq_of_iv (n := 32) rfl (by omega) (by omega)) kk
                                                                    · by_cases h35 : (xs 1).toInt < (34 : Int)
                                                                      · exact lf_11_364 hlt B hX hbl hbA hF (eq_of_iv (n := 33) rfl (by omega) (by omega)) kk
                                                                      · by_cases h36 : (xs 1).toInt < (35 : Int)
                                                                        · exact lf_11_365 hlt B hX hbl hbA hF (eq_of_iv (n := 34) rfl (by omega) (by omega)) kk
                                                                        · by_cases h37 : (xs 1).toInt < (36 : Int)
                                                                          · exact lf_11_366 hlt B hX hbl hbA hF (eq_of_iv (n := 35) rfl (by omega) (by omega)) kk
                                                                          · by_cases h38 : (xs 1).toInt < (37 : Int)
                                                                            · exact lf_11_367 hlt B hX hbl hbA hF (eq_of_iv (n := 36) rfl (by omega) (by omega)) kk
                                                                            · by_cases h39 : (xs 1).toInt < (38 : Int)
                                                                              · exact lf_11_368 hlt B hX hbl hbA hF (eq_of_iv (n := 37) rfl (by omega) (by omega)) kk
                                                                              · by_cases h40 : (xs 1).toInt < (39 : Int)
                                                                                · exact lf_11_369 hlt B hX hbl hbA hF (eq_of_iv (n := 38) rfl (by omega) (by omega)) kk
                                                                                · by_cases h41 : (xs 1).toInt < (40 : Int)
                                                                                  · exact lf_11_370 hlt B hX hbl hbA hF (eq_of_iv (n := 39) rfl (by omega) (by omega)) kk
                                                                                  · by_cases h42 : (xs 1).toInt < (41 : Int)
                                                                                    · exact lf_11_371 hlt B hX hbl hbA hF (eq_of_iv (n := 40) rfl (by omega) (by omega)) kk
                                                                                    · by_cases h43 : (xs 1).toInt < (42 : Int)
                                                                                      · exact lf_11_372 hlt B hX hbl hbA hF (eq_of_iv (n := 41) rfl (by omega) (by omega)) kk
                                                                                      · by_cases h44 : (xs 1).toInt < (43 : Int)
                                                                                        · exact lf_11_373 hlt B hX hbl hbA hF (eq_of_iv (n := 42) rfl (by omega) (by omega)) kk
                                                                                        · by_cases h45 : (xs 1).toInt < (44 : Int)
                                                                                          · exact lf_11_374 hlt B hX hbl hbA hF (eq_of_iv (n := 43) rfl (by omega) (by omega)) kk
                                                                                          · by_cases h46 : (xs 1).toInt < (45 : Int)
                                                                                            · exact lf_11_375 hlt B hX hbl hbA hF (eq_of_iv (n := 44) rfl (by omega) (by omega)) kk
                                                                                            · by_cases h47 : (xs 1).toInt < (46 : Int)
                                                                                              · exact lf_11_376 hlt B hX hbl hbA hF (eq_of_iv (n := 45) rfl (by omega) (by omega)) kk
                                                                                              · by_cases h48 : (xs 1).toInt < (47 : Int)
                                                                                                · exact lf_11_377 hlt B hX hbl hbA hF (eq_of_iv (n := 46) rfl (by omega) (by omega)) kk
                                                                                                · by_cases h49 : (xs 1).toInt < (48 : Int)
                                                                                                  · exact lf_11_378 hlt B hX hbl hbA hF (eq_of_iv (n := 47) rfl (by omega) (by omega)) kk
                                                                                                  · by_cases h50 : (xs 1).toInt < (49 : Int)
                                                                                                    · exact lf_11_379 hlt B hX hbl hbA hF (eq_of_iv (n := 48) rfl (by omega) (by omega)) kk
                                                                                                    · by_cases h51 : (xs 1).toInt < (50 : Int)
                                                                                                      · exact lf_11_380 hlt B hX hbl hbA hF (eq_of_iv (n := 49) rfl (by omega) (by omega)) kk
                                                                                                      · exact lf_11_381 hlt B hX hbl hbA hF (eq_of_iv (n := 50) rfl (by omega) (by omega)) kk
    · exact lf_11_382 hlt B hX hbl hbA hF rfl (by omega) (by omega) kk
theorem cs_12 {p : Program} {l : Launch} {e : Env} {s : State} {m : MethodId} {args : Array Value} {below : List Frame} {meth : Method} {c : Code} {g : gx_T} {Q : State → Prop} {σ : sx_T} {b t bS : Nat} {xs : Nat → Int32} (hlt : l.stackTraces = false) (B : zx_B p s m args meth c code RL 8 g) (hX : va_X bS 6 xs s s.heap) (hbl : bS < s.heap.size) (hbA : ¬ gx_b g ≤ bS) (hF : fz_P b t σ) (kk : ∀ σ', zx p l e room_1 s m args below meth c g 8 600002 7302232 Q σ' 1395 [(4, .int 0), (0, .ref bS)] []) : zx p l e room_1 s m args below meth c g 8 500 100000 Q σ 849 [(4, .int 0), (3, .ref (b + 431)), (2, .ref (b + 405)), (1, .ref (b + 0)), (0, .ref bS)] [] := by
  exact lf_12_383 hlt B hX hbl hbA hF  kk
theorem cs_13 {p : Program} {l : Launch} {e : Env} {s : State} {m : MethodId} {args : Array Value} {below : List Frame} {meth : Method} {c : Code} {g : gx_T} {Q : State → Prop} {σ : sx_T} {b t bS : Nat} {xs : Nat → Int32} (hlt : l.stackTraces = false) (B : zx_B p s m args meth c code RL 8 g) (hX : va_X bS 6 xs s s.heap) (hbl : bS < s.heap.size) (hbA : ¬ gx_b g ≤ bS) (hF : fz_P b t σ) (kk : ∀ σ', zx p l e room_1 s m args below meth c g 8 600002 7302232 Q σ' 1395 [(4, .int 0), (0, .ref bS)] []) : zx p l e room_1 s m args below meth c g 8 500 100000 Q σ 862 [(4, .int 0), (3, .ref (b + 431)), (2, .ref (b + 405)), (1, .ref (b + 0)), (0, .ref bS)] [] := by
  have b1 := Int32.le_toInt (xs 1)
  have c1 := Int32.toInt_lt (xs 1)
  by_cases h1 : (xs 1).toInt < (0 : Int)
  · exact lf_13_384 hlt B hX hbl hbA hF rfl (by omega) (by omega) kk
  · exact lf_13_385 hlt B hX hbl hbA hF rfl (by omega) (by omega) kk
theorem cs_14 {p : Program} {l : Launch} {e : Env} {s : State} {m : MethodId} {args : Array Value} {below : List Frame} {meth : Method} {c : Code} {g : gx_T} {Q : State → Prop} {σ : sx_T} {b t bS : Nat} {xs : Nat → Int32} (hlt : l.stackTraces = false) (B : zx_B p s m args meth c code RL 8 g) (hX : va_X bS 6 xs s s.heap) (hbl : bS < s.heap.size) (hbA : ¬ gx_b g ≤ bS) (hF : fz_P b t σ) (kk : ∀ σ', zx p l e room_1 s m args below meth c g 8 600002 7302232 Q σ' 1395 [(4, .int 0), (0, .ref bS)] []) : zx p l e room_1 s m args below meth c g 8 500 100000 Q σ 918 [(4, .int 0), (3, .ref (b + 431)), (2, .ref (b + 405)), (1, .ref (b + 0)), (0, .ref bS)] [] := by
  have b1 := Int32.le_toInt (xs 1)
  have c1 := Int32.toInt_lt (xs 1)
  have b2 := Int32.le_toInt (xs 2)
  have c2 := Int32.toInt_lt (xs 2)
  by_cases h1 : (xs 1).toInt < (0 : Int)
  · by_cases h2 : (xs 2).toInt < (0 : Int)
    · exact lf_14_386 hlt B hX hbl hbA hF rfl (by omega) (by omega) rfl (by omega) (by omega) kk
    · by_cases h3 : (xs 2).toInt < (9 : Int)
      · exact lf_14_387 hlt B hX hbl hbA hF rfl (by omega) (by omega) rfl (by omega) (by omega) kk
      · exact lf_14_388 hlt B hX hbl hbA hF rfl (by omega) (by omega) rfl (by omega) (by omega) kk
  · by_cases h2 : (xs 2).toInt < (0 : Int)
    · exact lf_14_389 hlt B hX hbl hbA hF rfl (by omega) (by omega) rfl (by omega) (by omega) kk
    · by_cases h3 : (xs 2).toInt < (9 : Int)
      · exact lf_14_390 hlt B hX hbl hbA hF rfl (by omega) (by omega) rfl (by omega) (by omega) kk
      · exact lf_14_391 hlt B hX hbl hbA hF rfl (by omega) (by omega) rfl (by omega) (by omega) kk
theorem cs_15 {p : Program} {l : Launch} {e : Env} {s : State} {m : MethodId} {args : Array Value} {below : List Frame} {meth : Method} {c : Code} {g : gx_T} {Q : State → Prop} {σ : sx_T} {b t bS : Nat} {xs : Nat → Int32} (hlt : l.stackTraces = false) (B : zx_B p s m args meth c code RL 8 g) (hX : va_X bS 6 xs s s.heap) (hbl : bS < s.heap.size) (hbA : ¬ gx_b g ≤ bS) (hF : fz_P b t σ) (kk : ∀ σ', zx p l e room_1 s m args below meth c g 8 600002 7302232 Q σ' 1395 [(4, .int 0), (0, .ref bS)] []) : zx p l e room_1 s m args below meth c g 8 500 100000 Q σ 986 [(4, .int 0), (3, .ref (b + 431)), (2, .ref (b + 405)), (1, .ref (b + 0)), (0, .ref bS)] [] := by
  have b1 := Int32.le_toInt (xs 1)
  have c1 := Int32.toInt_lt (xs 1)
  have b2 := Int32.le_toInt (xs 2)
  have c2 := Int32.toInt_lt (xs 2)
  by_cases h1 : (xs 1).toInt < (0 : Int)
  · by_cases h2 : (xs 2).toInt < (0 : Int)
    · exact lf_15_392 hlt B hX hbl hbA hF rfl (by omega) (by omega) rfl (by omega) (by omega) kk
    · by_cases h3 : (xs 2).toInt < (9 : Int)
      · exact lf_15_393 hlt B hX hbl hbA hF rfl (by omega) (by omega) rfl (by omega) (by omega) kk
      · exact lf_15_394 hlt B hX hbl hbA hF rfl (by omega) (by omega) rfl (by omega) (by omega) kk
  · by_cases h2 : (xs 2).toInt < (0 : Int)
    · exact lf_15_395 hlt B hX hbl hbA hF rfl (by omega) (by omega) rfl (by omega) (by omega) kk
    · by_cases h3 : (xs 2).toInt < (9 : Int)
      · exact lf_15_396 hlt B hX hbl hbA hF rfl (by omega) (by omega) rfl (by omega) (by omega) kk
      · exact lf_15_397 hlt B hX hbl hbA hF rfl (by omega) (by omega) rfl (by omega) (by omega) kk
theorem cs_16 {p : Program} {l : Launch} {e : Env} {s : State} {m : MethodId} {args : Array Value} {below : List Frame} {meth : Method} {c : Code} {g : gx_T} {Q : State → Prop} {σ : sx_T} {b t bS : Nat} {xs : Nat → Int32} (hlt : l.stackTraces = false) (B : zx_B p s m args meth c code RL 8 g) (hX : va_X bS 6 xs s s.heap) (hbl : bS < s.heap.size) (hbA : ¬ gx_b g ≤ bS) (hF : fz_P b t σ) (kk : ∀ σ', zx p l e room_1 s m args below meth c g 8 600002 7302232 Q σ' 1395 [(4, .int 0), (0, .ref bS)] []) : zx p l e room_1 s m args below meth c g 8 500 100000 Q σ 1054 [(4, .int 0), (3, .ref (b + 431)), (2, .ref (b + 405)), (1, .ref (b + 0)), (0, .ref bS)] [] := by
  have b1 := Int32.le_toInt (xs 1)
  have c1 := Int32.toInt_lt (xs 1)
  by_cases h1 : (xs 1).toInt < (0 : Int)
  · exact lf_16_398 hlt B hX hbl hbA hF rfl (by omega) (by omega) kk
  · exact lf_16_399 hlt B hX hbl hbA hF rfl (by omega) (by omega) kk
theorem cs_17 {p : Program} {l : Launch} {e : Env} {s : State} {m : MethodId} {args : Array Value} {below : List Frame} {meth : Method} {c : Code} {g : gx_T} {Q : State → Prop} {σ : sx_T} {b t bS : Nat} {xs : Nat → Int32} (hlt : l.stackTraces = false) (B : zx_B p s m args meth c code RL 8 g) (hX : va_X bS 6 xs s s.heap) (hbl : bS < s.heap.size) (hbA : ¬ gx_b g ≤ bS) (hF : fz_P b t σ) (kk : ∀ σ', zx p l e room_1 s m args below meth c g 8 600002 7302232 Q σ' 1395 [(4, .int 0), (0, .ref bS)] []) : zx p l e room_1 s m args below meth c g 8 500 100000 Q σ 1110 [(4, .int 0), (3, .ref (b + 431)), (2, .ref (b + 405)), (1, .ref (b + 0)), (0, .ref bS)] [] := by
  have b1 := Int32.le_toInt (xs 1)
  have c1 := Int32.toInt_lt (xs 1)
  by_cases h1 : (xs 1).toInt < (0 : Int)
  · exact lf_17_400 hlt B hX hbl hbA hF rfl (by omega) (by omega) kk
  · exact lf_17_401 hlt B hX hbl hbA hF rfl (by omega) (by omega) kk
theorem cs_18 {p : Program} {l : Launch} {e : Env} {s : State} {m : MethodId} {args : Array Value} {below : List Frame} {meth : Method} {c : Code} {g : gx_T} {Q : State → Prop} {σ : sx_T} {b t bS : Nat} {xs : Nat → Int32} (hlt : l.stackTraces = false) (B : zx_B p s m args meth c code RL 8 g) (hX : va_X bS 6 xs s s.heap) (hbl : bS < s.heap.size) (hbA : ¬ gx_b g ≤ bS) (hF : fz_P b t σ) (kk : ∀ σ', zx p l e room_1 s m args below meth c g 8 600002 7302232 Q σ' 1395 [(4, .int 0), (0, .ref bS)] []) : zx p l e room_1 s m args below meth c g 8 500 100000 Q σ 1166 [(4, .int 0), (3, .ref (b + 431)), (2, .ref (b + 405)), (1, .ref (b + 0)), (0, .ref bS)] [] := by
  have b1 := Int32.le_toInt (xs 1)
  have c1 := Int32.toInt_lt (xs 1)
  have b2 := Int32.le_toInt (xs 2)
  have c2 := Int32.toInt_lt (xs 2)
  by_cases h1 : (xs 1).toInt < (0 : Int)
  · exact lf_18_402 hlt B hX hbl hbA hF rfl (by omega) (by omega) rfl (by omega) (by omega) kk
  · exact lf_18_403 hlt B hX hbl hbA hF rfl (by omega) (by omega) rfl (by omega) (by omega) kk
theorem cs_19 {p : Program} {l : Launch} {e : Env} {s : State} {m : MethodId} {args : Array Value} {below : List Frame} {meth : Method} {c : Code} {g : gx_T} {Q : State → Prop} {σ : sx_T} {b t bS : Nat} {xs : Nat → Int32} (hlt : l.stackTraces = false) (B : zx_B p s m args meth c code RL 8 g) (hX : va_X bS 6 xs s s.heap) (hbl : bS < s.heap.size) (hbA : ¬ gx_b g ≤ bS) (hF : fz_P b t σ) (kk : ∀ σ', zx p l e room_1 s m args below meth c g 8 600002 7302232 Q σ' 1395 [(4, .int 0), (0, .ref bS)] []) : zx p l e room_1 s m args below meth c g 8 500 100000 Q σ 1234 [(4, .int 0), (3, .ref (b + 431)), (2, .ref (b + 405)), (1, .ref (b + 0)), (0, .ref bS)] [] := by
  have b1 := Int32.le_toInt (xs 1)
  have c1 := Int32.toInt_lt (xs 1)
  have b2 := Int32.le_toInt (xs 2)
  have c2 := Int32.toInt_lt (xs 2)
  by_cases h1 : (xs 1).toInt < (0 : Int)
  · exact lf_19_404 hlt B hX hbl hbA hF rfl (by omega) (by omega) rfl (by omega) (by omega) kk
  · exact lf_19_405 hlt B hX hbl hbA hF rfl (by omega) (by omega) rfl (by omega) (by omega) kk
theorem cs_20 {p : Program} {l : Launch} {e : Env} {s : State} {m : MethodId} {args : Array Value} {below : List Frame} {meth : Method} {c : Code} {g : gx_T} {Q : State → Prop} {σ : sx_T} {b t bS : Nat} {xs : Nat → Int32} (hlt : l.stackTraces = false) (B : zx_B p s m args meth c code RL 8 g) (hX : va_X bS 6 xs s s.heap) (hbl : bS < s.heap.size) (hbA : ¬ gx_b g ≤ bS) (hF : fz_P b t σ) (kk : ∀ σ', zx p l e room_1 s m args below meth c g 8 600002 7302232 Q σ' 1395 [(4, .int 0), (0, .ref bS)] []) : zx p l e room_1 s m args below meth c g 8 500 100000 Q σ 1301 [(4, .int 0), (3, .ref (b + 431)), (2, .ref (b + 405)), (1, .ref (b + 0)), (0, .ref bS)] [] := by
  exact lf_20_406 hlt B hX hbl hbA hF  kk
theorem cs_21 {p : Program} {l : Launch} {e : Env} {s : State} {m : MethodId} {args : Array Value} {below : List Frame} {meth : Method} {c : Code} {g : gx_T} {Q : State → Prop} {σ : sx_T} {b t bS : Nat} {xs : Nat → Int32} (hlt : l.stackTraces = false) (B : zx_B p s m args meth c code RL 8 g) (hX : va_X bS 6 xs s s.heap) (hbl : bS < s.heap.size) (hbA : ¬ gx_b g ≤ bS) (hF : fz_P b t σ) (kk : ∀ σ', zx p l e room_1 s m args below meth c g 8 600002 7302232 Q σ' 1395 [(4, .int 0), (0, .ref bS)] []) : zx p l e room_1 s m args below meth c g 8 500 100000 Q σ 1314 [(4, .int 0), (3, .ref (b + 431)), (2, .ref (b + 405)), (1, .ref (b + 0)), (0, .ref bS)] [] := by
  have b1 := Int32.le_toInt (xs 1)
  have c1 := Int32.toInt_lt (xs 1)
  have b2 := Int32.le_toInt (xs 2)
  have c2 := Int32.toInt_lt (xs 2)
  by_cases h1 : (xs 1).toInt < (0 : Int)
  · by_cases h2 : (xs 2).toInt < (0 : Int)
    · exact lf_21_407 hlt B hX hbl hbA hF rfl (by omega) (by omega) rfl (by omega) (by omega) kk
    · by_cases h3 : (xs 2).toInt < (6 : Int)
      · exact lf_21_408 hlt B hX hbl hbA hF rfl (by omega) (by omega) rfl (by omega) (by omega) kk
      · exact lf_21_409 hlt B hX hbl hbA hF rfl (by omega) (by omega) rfl (by omega) (by omega) kk
  · by_cases h2 : (xs 2).toInt < (0 : Int)
    · exact lf_21_410 hlt B hX hbl hbA hF rfl (by omega) (by omega) rfl (by omega) (by omega) kk
    · by_cases h3 : (xs 2).toInt < (6 : Int)
      · exact lf_21_411 hlt B hX hbl hbA hF rfl (by omega) (by omega) rfl (by omega) (by omega) kk
      · exact lf_21_412 hlt B hX hbl hbA hF rfl (by omega) (by omega) rfl (by omega) (by omega) kk
theorem cs_22 {p : Program} {l : Launch} {e : Env} {s : State} {m : MethodId} {args : Array Value} {below : List Frame} {meth : Method} {c : Code} {g : gx_T} {Q : State → Prop} {σ : sx_T} {b t bS : Nat} {xs : Nat → Int32} (hlt : l.stackTraces = false) (B : zx_B p s m args meth c code RL 8 g) (hX : va_X bS 6 xs s s.heap) (hbl : bS < s.heap.size) (hbA : ¬ gx_b g ≤ bS) (hF : fz_P b t σ) (kk : ∀ σ', zx p l e room_1 s m args below meth c g 8 600002 7302232 Q σ' 1395 [(4, .int 0), (0, .ref bS)] []) : zx p l e room_1 s m args below meth c g 8 500 100000 Q σ 1382 [(4, .int 0), (3, .ref (b + 431)), (2, .ref (b + 405)), (1, .ref (b + 0)), (0, .ref bS)] [] := by
  exact lf_22_413 hlt B hX hbl hbA hF  kk
