/-! ===== String.charAt and String.indexOf of the constants ===== -/
theorem dJ0_isLatin1_aae02_0 : decode cJ0_isLatin1_aae02 0 = .ok (.getstatic 38, 3) := by decide +kernel
theorem dJ0_isLatin1_aae02_3 : decode cJ0_isLatin1_aae02 3 = .ok (.ifCond .eq 14, 3) := by decide +kernel
theorem dJ0_isLatin1_aae02_6 : decode cJ0_isLatin1_aae02 6 = .ok (.aload_n 0, 1) := by decide +kernel
theorem dJ0_isLatin1_aae02_7 : decode cJ0_isLatin1_aae02 7 = .ok (.getfield 15, 3) := by decide +kernel
theorem dJ0_isLatin1_aae02_10 : decode cJ0_isLatin1_aae02 10 = .ok (.ifCond .ne 7, 3) := by decide +kernel
theorem dJ0_isLatin1_aae02_13 : decode cJ0_isLatin1_aae02 13 = .ok (.iconst 1, 1) := by decide +kernel
theorem dJ0_isLatin1_aae02_14 : decode cJ0_isLatin1_aae02 14 = .ok (.goto 4, 3) := by decide +kernel
theorem dJ0_isLatin1_aae02_17 : decode cJ0_isLatin1_aae02 17 = .ok (.iconst 0, 1) := by decide +kernel
theorem dJ0_isLatin1_aae02_18 : decode cJ0_isLatin1_aae02 18 = .ok (.ireturn, 1) := by decide +kernel
theorem dJ0_length_8abf5_0 : decode cJ0_length_8abf5 0 = .ok (.aload_n 0, 1) := by decide +kernel
theorem dJ0_length_8abf5_1 : decode cJ0_length_8abf5 1 = .ok (.getfield 9, 3) := by decide +kernel
theorem dJ0_length_8abf5_4 : decode cJ0_length_8abf5 4 = .ok (.arraylength, 1) := by decide +kernel
theorem dJ0_length_8abf5_5 : decode cJ0_length_8abf5 5 = .ok (.aload_n 0, 1) := by decide +kernel
theorem dJ0_length_8abf5_6 : decode cJ0_length_8abf5 6 = .ok (.invokevirtual 335, 3) := by decide +kernel
theorem dJ0_length_8abf5_9 : decode cJ0_length_8abf5 9 = .ok (.ishr, 1) := by decide +kernel
theorem dJ0_length_8abf5_10 : decode cJ0_length_8abf5 10 = .ok (.ireturn, 1) := by decide +kernel
theorem dJ0_coder_7d493_0 : decode cJ0_coder_7d493 0 = .ok (.getstatic 38, 3) := by decide +kernel
theorem dJ0_coder_7d493_3 : decode cJ0_coder_7d493 3 = .ok (.ifCond .eq 10, 3) := by decide +kernel
theorem dJ0_coder_7d493_6 : decode cJ0_coder_7d493 6 = .ok (.aload_n 0, 1) := by decide +kernel
theorem dJ0_coder_7d493_7 : decode cJ0_coder_7d493 7 = .ok (.getfield 15, 3) := by decide +kernel
theorem dJ0_coder_7d493_10 : decode cJ0_coder_7d493 10 = .ok (.goto 4, 3) := by decide +kernel
theorem dJ0_coder_7d493_13 : decode cJ0_coder_7d493 13 = .ok (.iconst 1, 1) := by decide +kernel
theorem dJ0_coder_7d493_14 : decode cJ0_coder_7d493 14 = .ok (.ireturn, 1) := by decide +kernel
theorem dJ1_canEncode_9a6ad_0 : decode cJ1_canEncode_9a6ad 0 = .ok (.iload_n 0, 1) := by decide +kernel
theorem dJ1_canEncode_9a6ad_1 : decode cJ1_canEncode_9a6ad 1 = .ok (.ifCond .lt 14, 3) := by decide +kernel
theorem dJ1_canEncode_9a6ad_4 : decode cJ1_canEncode_9a6ad 4 = .ok (.iload_n 0, 1) := by decide +kernel
theorem dJ1_canEncode_9a6ad_5 : decode cJ1_canEncode_9a6ad 5 = .ok (.sipush 255, 3) := by decide +kernel
theorem dJ1_canEncode_9a6ad_8 : decode cJ1_canEncode_9a6ad 8 = .ok (.if_icmp .gt 7, 3) := by decide +kernel
theorem dJ1_canEncode_9a6ad_11 : decode cJ1_canEncode_9a6ad 11 = .ok (.iconst 1, 1) := by decide +kernel
theorem dJ1_canEncode_9a6ad_12 : decode cJ1_canEncode_9a6ad 12 = .ok (.goto 4, 3) := by decide +kernel
theorem dJ1_canEncode_9a6ad_15 : decode cJ1_canEncode_9a6ad 15 = .ok (.iconst 0, 1) := by decide +kernel
theorem dJ1_canEncode_9a6ad_16 : decode cJ1_canEncode_9a6ad 16 = .ok (.ireturn, 1) := by decide +kernel
theorem dJ1_indexOf_4cfef_0 : decode cJ1_indexOf_4cfef 0 = .ok (.iload_n 1, 1) := by decide +kernel
theorem dJ1_indexOf_4cfef_1 : decode cJ1_indexOf_4cfef 1 = .ok (.invokestatic 88, 3) := by decide +kernel
theorem dJ1_indexOf_4cfef_4 : decode cJ1_indexOf_4cfef 4 = .ok (.ifCond .ne 5, 3) := by decide +kernel
theorem dJ1_indexOf_4cfef_7 : decode cJ1_indexOf_4cfef 7 = .ok (.iconst (-1), 1) := by decide +kernel
theorem dJ1_indexOf_4cfef_8 : decode cJ1_indexOf_4cfef 8 = .ok (.ireturn, 1) := by decide +kernel
theorem dJ1_indexOf_4cfef_9 : decode cJ1_indexOf_4cfef 9 = .ok (.iload_n 2, 1) := by decide +kernel
theorem dJ1_indexOf_4cfef_10 : decode cJ1_indexOf_4cfef 10 = .ok (.iconst 0, 1) := by decide +kernel
theorem dJ1_indexOf_4cfef_11 : decode cJ1_indexOf_4cfef 11 = .ok (.invokestatic 92, 3) := by decide +kernel
theorem dJ1_indexOf_4cfef_14 : decode cJ1_indexOf_4cfef 14 = .ok (.istore_n 2, 1) := by decide +kernel
theorem dJ1_indexOf_4cfef_15 : decode cJ1_indexOf_4cfef 15 = .ok (.iload_n 3, 1) := by decide +kernel
theorem dJ1_indexOf_4cfef_16 : decode cJ1_indexOf_4cfef 16 = .ok (.aload_n 0, 1) := by decide +kernel
theorem dJ1_indexOf_4cfef_17 : decode cJ1_indexOf_4cfef 17 = .ok (.arraylength, 1) := by decide +kernel
theorem dJ1_indexOf_4cfef_18 : decode cJ1_indexOf_4cfef 18 = .ok (.invokestatic 38, 3) := by decide +kernel
theorem dJ1_indexOf_4cfef_21 : decode cJ1_indexOf_4cfef 21 = .ok (.istore_n 3, 1) := by decide +kernel
theorem dJ1_indexOf_4cfef_22 : decode cJ1_indexOf_4cfef 22 = .ok (.iload_n 2, 1) := by decide +kernel
theorem dJ1_indexOf_4cfef_23 : decode cJ1_indexOf_4cfef 23 = .ok (.iload_n 3, 1) := by decide +kernel
theorem dJ1_indexOf_4cfef_24 : decode cJ1_indexOf_4cfef 24 = .ok (.if_icmp .lt 5, 3) := by decide +kernel
theorem dJ1_indexOf_4cfef_27 : decode cJ1_indexOf_4cfef 27 = .ok (.iconst (-1), 1) := by decide +kernel
theorem dJ1_indexOf_4cfef_28 : decode cJ1_indexOf_4cfef 28 = .ok (.ireturn, 1) := by decide +kernel
theorem dJ1_indexOf_4cfef_29 : decode cJ1_indexOf_4cfef 29 = .ok (.aload_n 0, 1) := by decide +kernel
theorem dJ1_indexOf_4cfef_30 : decode cJ1_indexOf_4cfef 30 = .ok (.iload_n 1, 1) := by decide +kernel
theorem dJ1_indexOf_4cfef_31 : decode cJ1_indexOf_4cfef 31 = .ok (.iload_n 2, 1) := by decide +kernel
theorem dJ1_indexOf_4cfef_32 : decode cJ1_indexOf_4cfef 32 = .ok (.iload_n 3, 1) := by decide +kernel
theorem dJ1_indexOf_4cfef_33 : decode cJ1_indexOf_4cfef 33 = .ok (.invokestatic 95, 3) := by decide +kernel
theorem dJ1_indexOf_4cfef_36 : decode cJ1_indexOf_4cfef 36 = .ok (.ireturn, 1) := by decide +kernel
theorem dJ1_indexOfChar_4cfef_0 : decode cJ1_indexOfChar_4cfef 0 = .ok (.iload_n 1, 1) := by decide +kernel
theorem dJ1_indexOfChar_4cfef_1 : decode cJ1_indexOfChar_4cfef 1 = .ok (.i2b, 1) := by decide +kernel
theorem dJ1_indexOfChar_4cfef_2 : decode cJ1_indexOfChar_4cfef 2 = .ok (.istore 4, 2) := by decide +kernel
theorem dJ1_indexOfChar_4cfef_4 : decode cJ1_indexOfChar_4cfef 4 = .ok (.iload_n 2, 1) := by decide +kernel
theorem dJ1_indexOfChar_4cfef_5 : decode cJ1_indexOfChar_4cfef 5 = .ok (.istore 5, 2) := by decide +kernel
theorem dJ1_indexOfChar_4cfef_7 : decode cJ1_indexOfChar_4cfef 7 = .ok (.iload 5, 2) := by decide +kernel
theorem dJ1_indexOfChar_4cfef_9 : decode cJ1_indexOfChar_4cfef 9 = .ok (.iload_n 3, 1) := by decide +kernel
theorem dJ1_indexOfChar_4cfef_10 : decode cJ1_indexOfChar_4cfef 10 = .ok (.if_icmp .ge 21, 3) := by decide +kernel
theorem dJ1_indexOfChar_4cfef_13 : decode cJ1_indexOfChar_4cfef 13 = .ok (.aload_n 0, 1) := by decide +kernel
theorem dJ1_indexOfChar_4cfef_14 : decode cJ1_indexOfChar_4cfef 14 = .ok (.iload 5, 2) := by decide +kernel
theorem dJ1_indexOfChar_4cfef_16 : decode cJ1_indexOfChar_4cfef 16 = .ok (.baload, 1) := by decide +kernel
theorem dJ1_indexOfChar_4cfef_17 : decode cJ1_indexOfChar_4cfef 17 = .ok (.iload 4, 2) := by decide +kernel
theorem dJ1_indexOfChar_4cfef_19 : decode cJ1_indexOfChar_4cfef 19 = .ok (.if_icmp .ne 6, 3) := by decide +kernel
theorem dJ1_indexOfChar_4cfef_22 : decode cJ1_indexOfChar_4cfef 22 = .ok (.iload 5, 2) := by decide +kernel
theorem dJ1_indexOfChar_4cfef_24 : decode cJ1_indexOfChar_4cfef 24 = .ok (.ireturn, 1) := by decide +kernel
theorem dJ1_indexOfChar_4cfef_25 : decode cJ1_indexOfChar_4cfef 25 = .ok (.iinc 5 1, 3) := by decide +kernel
theorem dJ1_indexOfChar_4cfef_28 : decode cJ1_indexOfChar_4cfef 28 = .ok (.goto (-21), 3) := by decide +kernel
theorem dJ1_indexOfChar_4cfef_31 : decode cJ1_indexOfChar_4cfef 31 = .ok (.iconst (-1), 1) := by decide +kernel
theorem dJ1_indexOfChar_4cfef_32 : decode cJ1_indexOfChar_4cfef 32 = .ok (.ireturn, 1) := by decide +kernel
theorem dJ0_charAt_5068e_0 : decode cJ0_charAt_5068e 0 = .ok (.aload_n 0, 1) := by decide +kernel
theorem dJ0_charAt_5068e_1 : decode cJ0_charAt_5068e 1 = .ok (.invokevirtual 492, 3) := by decide +kernel
theorem dJ0_charAt_5068e_4 : decode cJ0_charAt_5068e 4 = .ok (.ifCond .eq 12, 3) := by decide +kernel
theorem dJ0_charAt_5068e_7 : decode cJ0_charAt_5068e 7 = .ok (.aload_n 0, 1) := by decide +kernel
theorem dJ0_charAt_5068e_8 : decode cJ0_charAt_5068e 8 = .ok (.getfield 9, 3) := by decide +kernel
theorem dJ0_charAt_5068e_11 : decode cJ0_charAt_5068e 11 = .ok (.iload_n 1, 1) := by decide +kernel
theorem dJ0_charAt_5068e_12 : decode cJ0_charAt_5068e 12 = .ok (.invokestatic 495, 3) := by decide +kernel
theorem dJ0_charAt_5068e_15 : decode cJ0_charAt_5068e 15 = .ok (.ireturn, 1) := by decide +kernel
theorem dJ0_charAt_5068e_16 : decode cJ0_charAt_5068e 16 = .ok (.aload_n 0, 1) := by decide +kernel
theorem dJ0_charAt_5068e_17 : decode cJ0_charAt_5068e 17 = .ok (.getfield 9, 3) := by decide +kernel
theorem dJ0_charAt_5068e_20 : decode cJ0_charAt_5068e 20 = .ok (.iload_n 1, 1) := by decide +kernel
theorem dJ0_charAt_5068e_21 : decode cJ0_charAt_5068e 21 = .ok (.invokestatic 498, 3) := by decide +kernel
theorem dJ0_charAt_5068e_24 : decode cJ0_charAt_5068e 24 = .ok (.ireturn, 1) := by decide +kernel
theorem dJ1_charAt_3b067_0 : decode cJ1_charAt_3b067 0 = .ok (.iload_n 1, 1) := by decide +kernel
theorem dJ1_charAt_3b067_1 : decode cJ1_charAt_3b067 1 = .ok (.aload_n 0, 1) := by decide +kernel
theorem dJ1_charAt_3b067_2 : decode cJ1_charAt_3b067 2 = .ok (.arraylength, 1) := by decide +kernel
theorem dJ1_charAt_3b067_3 : decode cJ1_charAt_3b067 3 = .ok (.invokestatic 9, 3) := by decide +kernel
theorem dJ1_charAt_3b067_6 : decode cJ1_charAt_3b067 6 = .ok (.aload_n 0, 1) := by decide +kernel
theorem dJ1_charAt_3b067_7 : decode cJ1_charAt_3b067 7 = .ok (.iload_n 1, 1) := by decide +kernel
theorem dJ1_charAt_3b067_8 : decode cJ1_charAt_3b067 8 = .ok (.baload, 1) := by decide +kernel
theorem dJ1_charAt_3b067_9 : decode cJ1_charAt_3b067 9 = .ok (.sipush 255, 3) := by decide +kernel
theorem dJ1_charAt_3b067_12 : decode cJ1_charAt_3b067 12 = .ok (.iand, 1) := by decide +kernel
theorem dJ1_charAt_3b067_13 : decode cJ1_charAt_3b067 13 = .ok (.i2c, 1) := by decide +kernel
theorem dJ1_charAt_3b067_14 : decode cJ1_charAt_3b067 14 = .ok (.ireturn, 1) := by decide +kernel
theorem dJ0_checkIndex_df160_0 : decode cJ0_checkIndex_df160 0 = .ok (.iload_n 0, 1) := by decide +kernel
theorem dJ0_checkIndex_df160_1 : decode cJ0_checkIndex_df160 1 = .ok (.iload_n 1, 1) := by decide +kernel
theorem dJ0_checkIndex_df160_2 : decode cJ0_checkIndex_df160 2 = .ok (.getstatic 1053, 3) := by decide +kernel
theorem dJ0_checkIndex_df160_5 : decode cJ0_checkIndex_df160 5 = .ok (.invokestatic 1059, 3) := by decide +kernel
theorem dJ0_checkIndex_df160_8 : decode cJ0_checkIndex_df160 8 = .ok (.pop, 1) := by decide +kernel
theorem dJ0_checkIndex_df160_9 : decode cJ0_checkIndex_df160 9 = .ok (.return_, 1) := by decide +kernel
theorem dJ3_checkIndex_8e157_0 : decode cJ3_checkIndex_8e157 0 = .ok (.iload_n 0, 1) := by decide +kernel
theorem dJ3_checkIndex_8e157_1 : decode cJ3_checkIndex_8e157 1 = .ok (.ifCond .lt 8, 3) := by decide +kernel
theorem dJ3_checkIndex_8e157_4 : decode cJ3_checkIndex_8e157 4 = .ok (.iload_n 0, 1) := by decide +kernel
theorem dJ3_checkIndex_8e157_5 : decode cJ3_checkIndex_8e157 5 = .ok (.iload_n 1, 1) := by decide +kernel
theorem dJ3_checkIndex_8e157_6 : decode cJ3_checkIndex_8e157 6 = .ok (.if_icmp .lt 10, 3) := by decide +kernel
theorem dJ3_checkIndex_8e157_9 : decode cJ3_checkIndex_8e157 9 = .ok (.aload_n 2, 1) := by decide +kernel
theorem dJ3_checkIndex_8e157_10 : decode cJ3_checkIndex_8e157 10 = .ok (.iload_n 0, 1) := by decide +kernel
theorem dJ3_checkIndex_8e157_11 : decode cJ3_checkIndex_8e157 11 = .ok (.iload_n 1, 1) := by decide +kernel
theorem dJ3_checkIndex_8e157_12 : decode cJ3_checkIndex_8e157 12 = .ok (.invokestatic 95, 3) := by decide +kernel
theorem dJ3_checkIndex_8e157_15 : decode cJ3_checkIndex_8e157 15 = .ok (.athrow, 1) := by decide +kernel
theorem dJ3_checkIndex_8e157_16 : decode cJ3_checkIndex_8e157 16 = .ok (.iload_n 0, 1) := by decide +kernel
theorem dJ3_checkIndex_8e157_17 : decode cJ3_checkIndex_8e157 17 = .ok (.ireturn, 1) := by decide +kernel
theorem dJ0_indexOf_0f7a4_0 : decode cJ0_indexOf_0f7a4 0 = .ok (.aload_n 0, 1) := by decide +kernel
theorem dJ0_indexOf_0f7a4_1 : decode cJ0_indexOf_0f7a4 1 = .ok (.iload_n 1, 1) := by decide +kernel
theorem dJ0_indexOf_0f7a4_2 : decode cJ0_indexOf_0f7a4 2 = .ok (.iconst 0, 1) := by decide +kernel
theorem dJ0_indexOf_0f7a4_3 : decode cJ0_indexOf_0f7a4 3 = .ok (.invokevirtual 633, 3) := by decide +kernel
theorem dJ0_indexOf_0f7a4_6 : decode cJ0_indexOf_0f7a4 6 = .ok (.ireturn, 1) := by decide +kernel
theorem dJ0_indexOf_7cf53_0 : decode cJ0_indexOf_7cf53 0 = .ok (.aload_n 0, 1) := by decide +kernel
theorem dJ0_indexOf_7cf53_1 : decode cJ0_indexOf_7cf53 1 = .ok (.invokevirtual 492, 3) := by decide +kernel
theorem dJ0_indexOf_7cf53_4 : decode cJ0_indexOf_7cf53 4 = .ok (.ifCond .eq 19, 3) := by decide +kernel
theorem dJ0_indexOf_7cf53_7 : decode cJ0_indexOf_7cf53 7 = .ok (.aload_n 0, 1) := by decide +kernel
theorem dJ0_indexOf_7cf53_8 : decode cJ0_indexOf_7cf53 8 = .ok (.getfield 9, 3) := by decide +kernel
theorem dJ0_indexOf_7cf53_11 : decode cJ0_indexOf_7cf53 11 = .ok (.iload_n 1, 1) := by decide +kernel
theorem dJ0_indexOf_7cf53_12 : decode cJ0_indexOf_7cf53 12 = .ok (.iload_n 2, 1) := by decide +kernel
theorem dJ0_indexOf_7cf53_13 : decode cJ0_indexOf_7cf53 13 = .ok (.aload_n 0, 1) := by decide +kernel
theorem dJ0_indexOf_7cf53_14 : decode cJ0_indexOf_7cf53 14 = .ok (.invokevirtual 505, 3) := by decide +kernel
theorem dJ0_indexOf_7cf53_17 : decode cJ0_indexOf_7cf53 17 = .ok (.invokestatic 637, 3) := by decide +kernel
theorem dJ0_indexOf_7cf53_20 : decode cJ0_indexOf_7cf53 20 = .ok (.goto 16, 3) := by decide +kernel
theorem dJ0_indexOf_7cf53_23 : decode cJ0_indexOf_7cf53 23 = .ok (.aload_n 0, 1) := by decide +kernel
theorem dJ0_indexOf_7cf53_24 : decode cJ0_indexOf_7cf53 24 = .ok (.getfield 9, 3) := by decide +kernel
theorem dJ0_indexOf_7cf53_27 : decode cJ0_indexOf_7cf53 27 = .ok (.iload_n 1, 1) := by decide +kernel
theorem dJ0_indexOf_7cf53_28 : decode cJ0_indexOf_7cf53 28 = .ok (.iload_n 2, 1) := by decide +kernel
theorem dJ0_indexOf_7cf53_29 : decode cJ0_indexOf_7cf53 29 = .ok (.aload_n 0, 1) := by decide +kernel
theorem dJ0_indexOf_7cf53_30 : decode cJ0_indexOf_7cf53 30 = .ok (.invokevirtual 505, 3) := by decide +kernel
theorem dJ0_indexOf_7cf53_33 : decode cJ0_indexOf_7cf53 33 = .ok (.invokestatic 640, 3) := by decide +kernel
theorem dJ0_indexOf_7cf53_36 : decode cJ0_indexOf_7cf53 36 = .ok (.ireturn, 1) := by decide +kernel
section XJ
variable {p : Program} {l : Launch} {e : Env} {R : Room} {s : State} {m : MethodId} {args : Array Value} {below : List Frame} {meth : Method} {c : Code} {D : va_G} {cA : Nat → ClassId} {A0 : Nat → Prop} {sA : Nat → Nat} {M0 : xM} {ad0 : Nat → Nat → Nat} {nL : Nat} {cc : ByteArray} {own : String} {Ts : List Cond} {Z : State → Prop} {mcT msT : Nat}
variable {pc bc bs : Nat} {ls : xLs} {st : List xV} {M : xM}
theorem xs_ifJ (X : xCtx p R s m args c D cA A0 sA nL cc own Ts mcT msT) {op : Jvm.ClassFile.Cond} {off : Int} {tgt : Nat} {x : Int32} (hd : decode cc pc = .ok (.ifCond op off, 3)) (ht : (pc : Int) + off = (tgt : Int)) (hc : xif op x (some true) (some false) = some true) (k : xWx p l e R s m args below meth c D cA A0 sA M0 ad0 nL Z mcT msT tgt bc bs ls st M) : xWx p l e R s m args below meth c D cA A0 sA M0 ad0 nL Z mcT msT pc bc bs ls (.inl x :: st) M :=
  xs_if X hd ht hc (fun _ => k) (fun z => by cases z)
theorem xs_ifN (X : xCtx p R s m args c D cA A0 sA nL cc own Ts mcT msT) {op : Jvm.ClassFile.Cond} {off : Int} {tgt : Nat} {x : Int32} (hd : decode cc pc = .ok (.ifCond op off, 3)) (ht : (pc : Int) + off = (tgt : Int)) (hc : xif op x (some true) (some false) = some false) (k : xWx p l e R s m args below meth c D cA A0 sA M0 ad0 nL Z mcT msT (pc + 3) bc bs ls st M) : xWx p l e R s m args below meth c D cA A0 sA M0 ad0 nL Z mcT msT pc bc bs ls (.inl x :: st) M :=
  xs_if X hd ht hc (fun z => by cases z) (fun _ => k)
theorem xs_icJ (X : xCtx p R s m args c D cA A0 sA nL cc own Ts mcT msT) {op : Jvm.ClassFile.Cond} {off : Int} {tgt : Nat} {x y : Int32} (hd : decode cc pc = .ok (.if_icmp op off, 3)) (ht : (pc : Int) + off = (tgt : Int)) (hc : xic op x y (some true) (some false) = some true) (k : xWx p l e R s m args below meth c D cA A0 sA M0 ad0 nL Z mcT msT tgt bc bs ls st M) : xWx p l e R s m args below meth c D cA A0 sA M0 ad0 nL Z mcT msT pc bc bs ls (.inl y :: .inl x :: st) M :=
  xs_ic X hd ht hc (fun _ => k) (fun z => by cases z)
theorem xs_icN (X : xCtx p R s m args c D cA A0 sA nL cc own Ts mcT msT) {op : Jvm.ClassFile.Cond} {off : Int} {tgt : Nat} {x y : Int32} (hd : decode cc pc = .ok (.if_icmp op off, 3)) (ht : (pc : Int) + off = (tgt : Int)) (hc : xic op x y (some true) (some false) = some false) (k : xWx p l e R s m args below meth c D cA A0 sA M0 ad0 nL Z mcT msT (pc + 3) bc bs ls st M) : xWx p l e R s m args below meth c D cA A0 sA M0 ad0 nL Z mcT msT pc bc bs ls (.inl y :: .inl x :: st) M :=
  xs_ic X hd ht hc (fun z => by cases z) (fun _ => k)
theorem xs_i2b (X : xCtx p R s m args c D cA A0 sA nL cc own Ts mcT msT) {x : Int32} (hd : decode cc pc = .ok (.i2b, 1)) (k : xWx p l e R s m args below meth c D cA A0 sA M0 ad0 nL Z mcT msT (pc + 1) bc bs ls (.inl x.toInt8.toInt32 :: st) M) : xWx p l e R s m args below meth c D cA A0 sA M0 ad0 nL Z mcT msT pc bc bs ls (.inl x :: st) M := by
  obtain ⟨hx, hb, hml, ho, hts, hK, hA, hmc, hms, hfr, hlo⟩ := X
  intro ad H locs arr cells slots g1 g2 g3 g4 g5 g6 g7 g8
  exact lv_i2b hx hb hd rfl (k ad H locs arr cells slots g1 g2 g3 g4 g5 (g6.tail.cons trivial) g7 g8)
theorem xs_sval (X : xCtx p R s m args c D cA A0 sA nL cc own Ts mcT msT) {idx q : Nat} (hq : q < 3) (hw : Cond.fieldLink own idx "java/lang/String" "value" "[B" ∈ Ts) (hd : decode cc pc = .ok (.getfield idx, 3)) (k : xWx p l e R s m args below meth c D cA A0 sA M0 ad0 nL Z mcT msT (pc + 3) bc bs ls (.inr (.inr (30, some (10 + q))) :: st) M) : xWx p l e R s m args below meth c D cA A0 sA M0 ad0 nL Z mcT msT pc bc bs ls (.inr (.inr (30, some q)) :: st) M := by
  obtain ⟨hx, hb, hml, ho, hts, hK, hA, hmc, hms, hfr, hlo, hstr⟩ := X
  intro ad H locs arr cells slots g1 g2 g3 g4 g5 g6 g7 g8
  have h9 := k ad H locs arr cells slots g1 g2 g3 g4 g5 (g6.tail.cons (Or.inr rfl)) g7 g8
  have h8 := (hstr.1.1 q hq).2.2.1
  dsimp only at h8
  rw [← g1.1 q, ← g1.1 (10 + q)] at h8
  exact vk_getf hx hb h8 g3 ho (hts _ hw) (fun _ z => z) hd h9
theorem xs_scod (X : xCtx p R s m args c D cA A0 sA nL cc own Ts mcT msT) {idx q : Nat} (hq : q < 3) (hw : Cond.fieldLink own idx "java/lang/String" "coder" "B" ∈ Ts) (hd : decode cc pc = .ok (.getfield idx, 3)) (k : xWx p l e R s m args below meth c D cA A0 sA M0 ad0 nL Z mcT msT (pc + 3) bc bs ls (.inl 0 :: st) M) : xWx p l e R s m args below meth c D cA A0 sA M0 ad0 nL Z mcT msT pc bc bs ls (.inr (.inr (30, some q)) :: st) M := by
  obtain ⟨hx, hb, hml, ho, hts, hK, hA, hmc, hms, hfr, hlo, hstr⟩ := X
  intro ad H locs arr cells slots g1 g2 g3 g4 g5 g6 g7 g8
  have h9 := k ad H locs arr cells slots g1 g2 g3 g4 g5 (g6.tail.cons trivial) g7 g8
  have h8 := (hstr.1.1 q hq).2.1
  rw [← g1.1 q] at h8
  exact vk_getf hx hb h8 g3 ho (hts _ hw) (fun _ z => z) hd h9
theorem xs_scomp (X : xCtx p R s m args c D cA A0 sA nL cc own Ts mcT msT) {idx : Nat} (hw : Cond.fieldLink own idx "java/lang/String" "COMPACT_STRINGS" "Z" ∈ Ts) (hd : decode cc pc = .ok (.getstatic idx, 3)) (k : xWx p l e R s m args below meth c D cA A0 sA M0 ad0 nL Z mcT msT (pc + 3) bc bs ls (.inl 1 :: st) M) : xWx p l e R s m args below meth c D cA A0 sA M0 ad0 nL Z mcT msT pc bc bs ls st M := by
  obtain ⟨hx, hb, hml, ho, hts, hK, hA, hmc, hms, hfr, hlo, hstr⟩ := X
  intro ad H locs arr cells slots g1 g2 g3 g4 g5 g6 g7 g8
  exact va_gets hx hb hstr.2.2.2.2.1 g3 ho (hts _ hw) (fun _ z => z) hd (k ad H locs arr cells slots g1 g2 g3 g4 g5 (g6.cons trivial) g7 g8)
/-- the formatter: null, or some object -/
def xfmt (sA : Nat → Nat) : xV := .inr (.inr (30, match sA 20 with | 0 => none | _ => some 21))
theorem xs_sfmt (X : xCtx p R s m args c D cA A0 sA nL cc own Ts mcT msT) {idx : Nat} (hw : Cond.fieldLink own idx "jdk/internal/util/Preconditions" "SIOOBE_FORMATTER" "Ljava/util/function/BiFunction;" ∈ Ts) (hd : decode cc pc = .ok (.getstatic idx, 3)) (k : xWx p l e R s m args below meth c D cA A0 sA M0 ad0 nL Z mcT msT (pc + 3) bc bs ls (xfmt sA :: st) M) : xWx p l e R s m args below meth c D cA A0 sA M0 ad0 nL Z mcT msT pc bc bs ls st M := by
  obtain ⟨hx, hb, hml, ho, hts, hK, hA, hmc, hms, hfr, hlo, hstr⟩ := X
  intro ad H locs arr cells slots g1 g2 g3 g4 g5 g6 g7 g8
  have hv : vok M (xfmt sA) := by unfold xfmt; split <;> first | trivial | exact Or.inr rfl
  have h9 := k ad H locs arr cells slots g1 g2 g3 g4 g5 (g6.cons hv) g7 g8
  have h8 := hstr.2.2.2.2.2.1
  refine va_gets hx hb h8 g3 ho (hts _ hw) (fun _ z => z) hd ?_
  rw [List.map_cons] at h9
  have e1 : xcv ad (xfmt sA) = (match sA 20 with | 0 => Value.null | _ => .ref (sA 21)) := by
    unfold xfmt
    cases sA 20 with
    | zero => rfl
    | succ n => show Value.ref _ = Value.ref _; rw [g1.1]
  rw [e1] at h9
  exact h9
theorem xs_sbyte (X : xCtx p R s m args c D cA A0 sA nL cc own Ts mcT msT) {i : Int32} {q : Nat} (hq : q < 3) (hd : decode cc pc = .ok (.baload, 1)) (hi : vp_in i ([8, 184, 21].getD q 0)) (k : xWx p l e R s m args below meth c D cA A0 sA M0 ad0 nL Z mcT msT (pc + 1) bc bs ls (.inl ((xbyts.getD q []).getD (xi i) 0) :: st) M) : xWx p l e R s m args below meth c D cA A0 sA M0 ad0 nL Z mcT msT pc bc bs ls (.inl i :: .inr (.inr (30, some (10 + q))) :: st) M := by
  obtain ⟨hx, hb, hml, ho, hts, hK, hA, hmc, hms, hfr, hlo, hstr⟩ := X
  intro ad H locs arr cells slots g1 g2 g3 g4 g5 g6 g7 g8
  have h9 := k ad H locs arr cells slots g1 g2 g3 g4 g5 (g6.tail.tail.cons trivial) g7 g8
  have h8 := (hstr.1.1 q hq).2.2.2
  dsimp only at h8
  rw [← g1.1 (10 + q)] at h8
  exact va_tb hx hb h8 g3 hi rfl hd h9
theorem xs_slen (X : xCtx p R s m args c D cA A0 sA nL cc own Ts mcT msT) {q : Nat} (hq : q < 3) (hd : decode cc pc = .ok (.arraylength, 1)) (k : xWx p l e R s m args below meth c D cA A0 sA M0 ad0 nL Z mcT msT (pc + 1) bc bs ls (.inl (Int32.ofNat ([8, 184, 21].getD q 0)) :: st) M) : xWx p l e R s m args below meth c D cA A0 sA M0 ad0 nL Z mcT msT pc bc bs ls (.inr (.inr (30, some (10 + q))) :: st) M := by
  obtain ⟨hx, hb, hml, ho, hts, hK, hA, hmc, hms, hfr, hlo, hstr⟩ := X
  intro ad H locs arr cells slots g1 g2 g3 g4 g5 g6 g7 g8
  have h9 := k ad H locs arr cells slots g1 g2 g3 g4 g5 (g6.tail.cons trivial) g7 g8
  have h8 := (hstr.1.1 q hq).2.2.2
  dsimp only at h8
  rw [← g1.1 (10 + q)] at h8
  exact va_tlen hx hb h8 g3 rfl hd h9
end XJ
/-! the contracts -/
theorem okJ_pre (l : Launch) (D : va_G) (cA : Nat → ClassId) (sA : Nat → Nat) (i n : Int32) (M : xM) (h0 : ¬ i < 0) (h1 : i < n) : xMet l D cA sA yJ3_checkIndex_8e157 cJ3_checkIndex_8e157 3 (some .int) xG 0 0 0 [.inl i, .inl n, xfmt sA] M (some (.inl i)) M := by
  refine xmet_of (by decide +kernel) (Nat.le_of_ble_eq_true rfl) (fun p e s m ag below meth c A0 ad0 Z X hn hE => ?_)
  refine xs_iload_n X dJ3_checkIndex_8e157_0 rfl ?_
  refine xs_ifN X (tgt := 9) dJ3_checkIndex_8e157_1 (by decide) (by simp only [xif]; rw [if_neg h0]) ?_
  refine xs_iload_n X dJ3_checkIndex_8e157_4 rfl ?_
  refine xs_iload_n X dJ3_checkIndex_8e157_5 rfl ?_
  refine xs_icJ X (tgt := 16) dJ3_checkIndex_8e157_6 (by decide) (by simp only [xic]; rw [if_pos h1]) ?_
  refine xs_iload_n X dJ3_checkIndex_8e157_16 rfl ?_
  exact hE 17 0 0 _ .ireturn dJ3_checkIndex_8e157_17 (Or.inl ⟨rfl, i, .int, rfl, rfl, rfl⟩)
theorem cdJ_pre : Cond.code yJ3_checkIndex_8e157 cJ3_checkIndex_8e157 3 (some .int) ∈ xG := xg 770 (by decide +kernel) (by decide +kernel)
theorem cdJ_chk : Cond.code yJ0_checkIndex_df160 cJ0_checkIndex_df160 2 none ∈ xG := xg 767 (by decide +kernel) (by decide +kernel)
theorem cdJ_ch1 : Cond.code yJ1_charAt_3b067 cJ1_charAt_3b067 2 (some .char) ∈ xG := xg 764 (by decide +kernel) (by decide +kernel)
theorem cdJ_chA : Cond.code yJ0_charAt_5068e cJ0_charAt_5068e 2 (some .char) ∈ xG := xg 761 (by decide +kernel) (by decide +kernel)
theorem cdJ_lat : Cond.code yJ0_isLatin1_aae02 cJ0_isLatin1_aae02 1 (some .boolean) ∈ xG := xg 682 (by decide +kernel) (by decide +kernel)
theorem cdJ_len : Cond.code yJ0_length_8abf5 cJ0_length_8abf5 1 (some .int) ∈ xG := xg 688 (by decide +kernel) (by decide +kernel)
theorem cdJ_cod : Cond.code yJ0_coder_7d493 cJ0_coder_7d493 1 (some .byte) ∈ xG := xg 692 (by decide +kernel) (by decide +kernel)
theorem cdJ_ix1 : Cond.code yJ1_indexOf_4cfef cJ1_indexOf_4cfef 4 (some .int) ∈ xG := xg 695 (by decide +kernel) (by decide +kernel)
theorem cdJ_can : Cond.code yJ1_canEncode_9a6ad cJ1_canEncode_9a6ad 1 (some .boolean) ∈ xG := xg 698 (by decide +kernel) (by decide +kernel)
theorem cdJ_ixc : Cond.code yJ1_indexOfChar_4cfef cJ1_indexOfChar_4cfef 6 (some .int) ∈ xG := xg 703 (by decide +kernel) (by decide +kernel)
theorem cdJ_ix0 : Cond.code yJ0_indexOf_0f7a4 cJ0_indexOf_0f7a4 2 (some .int) ∈ xG := xg 674 (by decide +kernel) (by decide +kernel)
theorem cdJ_ix2 : Cond.code yJ0_indexOf_7cf53 cJ0_indexOf_7cf53 3 (some .int) ∈ xG := xg 678 (by decide +kernel) (by decide +kernel)
theorem okJ_chk (l : Launch) (D : va_G) (cA : Nat → ClassId) (sA : Nat → Nat) (i n : Int32) (M : xM) (h0 : ¬ i < 0) (h1 : i < n) : xMet l D cA sA yJ0_checkIndex_df160 cJ0_checkIndex_df160 2 none xG 1 0 0 [.inl i, .inl n] M none M := by
  refine xmet_of (by decide +kernel) (Nat.le_of_ble_eq_true rfl) (fun p e s m ag below meth c A0 ad0 Z X hn hE => ?_)
  have hT : ∀ w ∈ xG, w ∈ (Cond.code yJ0_checkIndex_df160 cJ0_checkIndex_df160 2 none :: xG) := fun w hw => List.mem_cons_of_mem _ hw
  refine xs_iload_n X dJ0_checkIndex_df160_0 rfl ?_
  refine xs_iload_n X dJ0_checkIndex_df160_1 rfl ?_
  refine xs_sfmt X (hT _ (xg 722 (by decide +kernel) (by decide +kernel))) dJ0_checkIndex_df160_2 ?_
  refine xs_call X (kd := 2) (n := 3) (idx := 1059) (as := [.inl i, .inl n, xfmt sA]) (rest := []) (okJ_pre l D cA sA i n M h0 h1) (xG_good cdJ_pre hT) ⟨hT _ (xg 768 (by decide +kernel) (by decide +kernel)), hT _ (xg 769 (by decide +kernel) (by decide +kernel)), hT _ (xg 145 (by decide +kernel) (by decide +kernel))⟩ ⟨by decide +kernel, by decide +kernel, by decide +kernel⟩ (fun z => absurd z (by decide)) rfl (fun z => absurd rfl z) rfl (by decide) dJ0_checkIndex_df160_5 ⟨Nat.le_refl _, Nat.le_refl _, by decide⟩ (by decide) (Nat.le_refl _) (Nat.le_refl _) ?_
  refine xs_pop X dJ0_checkIndex_df160_8 rfl ?_
  exact hE 9 0 0 _ .return_ dJ0_checkIndex_df160_9 (Or.inr ⟨rfl, rfl, rfl⟩)
/-- what a byte of a text is as a sign -/
theorem xbyte_char : ∀ q, q < 2 → ∀ j, j < xstrN q → ((((xbyts.getD q []).getD j 0) &&& 255).toUInt32 % 65536).toInt32 = xstr q j ∧ [8, 184, 21].getD q 0 = xstrN q := by decide +kernel
theorem xin_iff {i : Int32} {n : Nat} (h : xin i n = true) (hn : n < 2 ^ 31) : ∃ j : Nat, j < n ∧ i = nI j ∧ xi i = j ∧ ¬ i < 0 ∧ i < nI n := by
  obtain ⟨j, hj, rfl⟩ := vp_in_of (xin_vp h) hn
  exact ⟨j, hj, rfl, nI_clamp (by omega), nI_pos (by omega), nI_lt hj hn⟩
theorem okJ_ch1 (l : Launch) (D : va_G) (cA : Nat → ClassId) (sA : Nat → Nat) (q : Nat) (i : Int32) (M : xM) (hq : q < 2) (hi : xin i (xstrN q) = true) : xMet l D cA sA yJ1_charAt_3b067 cJ1_charAt_3b067 2 (some .char) xG 2 0 0 [.inr (.inr (30, some (10 + q))), .inl i] M (some (.inl (xstr q (xi i)))) M := by
  refine xmet_of (by decide +kernel) (Nat.le_of_ble_eq_true rfl) (fun p e s m ag below meth c A0 ad0 Z X hn hE => ?_)
  have hT : ∀ w ∈ xG, w ∈ (Cond.code yJ1_charAt_3b067 cJ1_charAt_3b067 2 (some .char) :: xG) := fun w hw => List.mem_cons_of_mem _ hw
  have hN : xstrN q < 2 ^ 31 := by rcases (show q = 0 ∨ q = 1 by omega) with rfl | rfl <;> decide +kernel
  obtain ⟨j, hj, rfl, e1, h0, h1⟩ := xin_iff hi hN
  obtain ⟨b1, b2⟩ := xbyte_char q hq j hj
  refine xs_iload_n X dJ1_charAt_3b067_0 rfl ?_
  refine xs_aload_n X dJ1_charAt_3b067_1 rfl ?_
  refine xs_slen X (by omega) dJ1_charAt_3b067_2 ?_
  rw [b2]
  refine xs_call X (kd := 2) (n := 2) (idx := 9) (as := [.inl (nI j), .inl (Int32.ofNat (xstrN q))]) (rest := []) (okJ_chk l D cA sA (nI j) (nI (xstrN q)) M h0 h1) (xG_good cdJ_chk hT) ⟨hT _ (xg 765 (by decide +kernel) (by decide +kernel)), hT _ (xg 766 (by decide +kernel) (by decide +kernel)), hT _ (xg 142 (by decide +kernel) (by decide +kernel))⟩ ⟨by decide +kernel, by decide +kernel, by decide +kernel⟩ (fun z => absurd z (by decide)) rfl (fun z => absurd rfl z) rfl (by decide) dJ1_charAt_3b067_3 ⟨Nat.le_refl _, Nat.le_refl _, by decide⟩ (by decide) (Nat.le_refl _) (Nat.le_refl _) ?_
  refine xs_aload_n X dJ1_charAt_3b067_6 rfl ?_
  refine xs_iload_n X dJ1_charAt_3b067_7 rfl ?_
  refine xs_sbyte X (by omega) dJ1_charAt_3b067_8 (by rw [b2]; exact vp_in_nI hj hN) ?_
  refine xs_sipush X (v := 255) dJ1_charAt_3b067_9 (by decide +kernel) ?_
  refine xs_iand X dJ1_charAt_3b067_12 ?_
  refine xs_i2c X dJ1_charAt_3b067_13 ?_
  have b3 : ((((xbyts.getD q []).getD (xi (nI j)) 0) &&& 255).toUInt32 % 65536).toInt32 = xstr q (xi (nI j)) := by rw [e1]; exact b1
  rw [b3]
  exact hE 14 0 0 _ .ireturn dJ1_charAt_3b067_14 (Or.inl ⟨rfl, xstr q (xi (nI j)), .char, rfl, rfl, by rw [← b3]; exact pk_nc _⟩)
theorem okJ_lat (l : Launch) (D : va_G) (cA : Nat → ClassId) (sA : Nat → Nat) (q : Nat) (M : xM) (hq : q < 2) : xMet l D cA sA yJ0_isLatin1_aae02 cJ0_isLatin1_aae02 1 (some .boolean) xG 0 0 0 [.inr (.inr (30, some q))] M (some (.inl 1)) M := by
  refine xmet_of (by decide +kernel) (Nat.le_of_ble_eq_true rfl) (fun p e s m ag below meth c A0 ad0 Z X hn hE => ?_)
  have hT : ∀ w ∈ xG, w ∈ (Cond.code yJ0_isLatin1_aae02 cJ0_isLatin1_aae02 1 (some .boolean) :: xG) := fun w hw => List.mem_cons_of_mem _ hw
  refine xs_scomp X (hT _ (xg 683 (by decide +kernel) (by decide +kernel))) dJ0_isLatin1_aae02_0 ?_
  refine xs_ifN X (tgt := 17) dJ0_isLatin1_aae02_3 (by decide) (by decide +kernel) ?_
  refine xs_aload_n X dJ0_isLatin1_aae02_6 rfl ?_
  refine xs_scod X (by omega) (hT _ (xg 2187 (by decide +kernel) (by decide +kernel))) dJ0_isLatin1_aae02_7 ?_
  refine xs_ifN X (tgt := 17) dJ0_isLatin1_aae02_10 (by decide) (by decide +kernel) ?_
  refine xs_iconst X (v := 1) dJ0_isLatin1_aae02_13 (by decide +kernel) ?_
  refine xs_goto X (tgt := 18) dJ0_isLatin1_aae02_14 (by decide) ?_
  exact hE 18 0 0 _ .ireturn dJ0_isLatin1_aae02_18 (Or.inl ⟨rfl, 1, .boolean, rfl, rfl, rfl⟩)
section XJC
variable {p : Program} {l : Launch} {e : Env} {R : Room} {s : State} {m : MethodId} {args : Array Value} {below : List Frame} {meth : Method} {c : Code} {D : va_G} {cA : Nat → ClassId} {A0 : Nat → Prop} {sA : Nat → Nat} {M0 : xM} {ad0 : Nat → Nat → Nat} {nL : Nat} {cc : ByteArray} {own : String} {Ts : List Cond} {Z : State → Prop} {mcT msT : Nat}
variable {pc bc bs : Nat} {ls : xLs} {st : List xV} {M : xM}
theorem xs_callStr (X : xCtx p R s m args c D cA A0 sA nL cc own Ts mcT msT) {idx n nL2 h q : Nat} {y : MethodName} {cc2 : ByteArray} {ret2 : Option FieldType} {as' rest : List xV} {v : Option xV} {M' : xM}
    (hM : xMet l D cA sA y cc2 nL2 ret2 xG h 0 0 (.inr (.inr (30, some q)) :: as') M v M') (hG : GoodIn Ts (Cond.code y cc2 nL2 ret2 :: xG)) (hq : q < 3) (hcls : y.cls = "java/lang/String") (w1 : Cond.methodLink own idx y ∈ Ts) (w2 : Cond.instanceMethod y ∈ Ts) (w3 : Cond.selects y.cls y y ∈ Ts) (w4 : Cond.initialized y.cls ∈ Ts)
    (hy : y.cls ≠ "java/lang/invoke/MethodHandle" ∧ y.cls ≠ "java/lang/invoke/VarHandle" ∧ (parseMethodDescriptor y.desc).map (fun d => d.parameters.length) = some n) (hn : as'.length = n) (hd : decode cc pc = .ok (.invokevirtual idx, 3)) (hroom : h + 2 ≤ R.frames ∧ 60 * (h + 2) ≤ R.locals ∧ nL2 ≤ 40) (hcat : xcats rest ≤ 8)
    (k : xWx p l e R s m args below meth c D cA A0 sA M0 ad0 nL Z mcT msT (pc + 3) bc bs ls (xpush v rest) M') : xWx p l e R s m args below meth c D cA A0 sA M0 ad0 nL Z mcT msT pc bc bs ls ((.inr (.inr (30, some q)) :: as').reverse ++ rest) M := by
  obtain ⟨hx, hb, hml, ho, hts, hK, hA, hmc, hms, hfr, hlo⟩ := X
  intro ad H locs arr cells slots g1 g2 g3 g4 g5 g6 g7 g8
  have hoa : xokS M (.inr (.inr (30, some q)) :: as') := fun w hw => g6 w (List.mem_append_left _ (List.mem_reverse.mpr hw))
  have hor : xokS M rest := fun w hw => g6 w (List.mem_append_right _ hw)
  have hMt := hM ad H.size g1.1 hoa
  have hxA2 : ∀ q, xA ad M H.size q → A0 q := by
    intro q hx
    rcases hx with ⟨cx, sx, h1, rfl⟩ | h1
    · exact (g2.1 cx sx h1).2.2
    · exact hA q (Nat.le_trans g3.1 h1)
  have hpre : ∀ U : State, U.heap = H → s.WarmedH U.vm → va_Pc ((.inr (.inr (30, some q)) :: as' : List xV).map (xcv ad)) (xPre D cA sA ad M H.size) ((.inr (.inr (30, some q)) :: as' : List xV).map (xcv ad)).toArray U := by
    intro U hU hWm
    exact ⟨rfl, by rw [hU], by rw [hU]; exact ⟨fun cx sx h => ⟨(g2.1 cx sx h).1, (g2.1 cx sx h).2.1, trivial⟩, g2.2⟩, va_K.moved hWm.alike hK, by rw [hU]; exact (((hlo.2.kept (fun a h1 h2 => g3.2.1 a h1 h2)).narrow hxA2).warm hWm)⟩
  have hsum : 2 * (F0 m pc arr (((.inr (.inr (30, some q)) :: as').reverse ++ rest).map (xcv ad))).monitorRoom + ((rest.map (xcv ad)).map fun v => v.category).sum ≤ 8 := lv_room (by rw [xcat_sum]; exact hcat)
  have hroom2 : (xRoom h 0 0).frames + 1 ≤ R.frames ∧ 8 + (nL2 + 11) + (xRoom h 0 0).locals ≤ R.locals := ⟨hroom.1, by show 8 + (nL2 + 11) + 60 * (h + 1) ≤ _; omega⟩
  have hcf : CallFix p m c cc nL s args Ts own := ⟨hx, hb, hml, ho, hts⟩
  have cellsok : cells + 0 ≤ R.cells ∧ slots + 0 ≤ R.slots := ⟨by omega, by omega⟩
  refine xs_back hA g1 g2 g3 g4 g5 hor g7 g8 (Nat.zero_le _) (Nat.zero_le _) (a := ((.inr (.inr (30, some q)) :: as' : List xV).map (xcv ad)).toArray) ?_ k
  have hrc : ∃ cell : Cell, H[ad 30 q]? = some cell ∧ cell.vm.isStatics = false ∧ s.vm.findClass y.cls = some cell.cls := by
    rw [hcls, g1.1 q]
    exact vk_recv hlo.2.1 hq g3
  have hstk : (F0 m pc arr (((.inr (.inr (30, some q)) :: as').reverse ++ rest).map (xcv ad))).stack = (as'.map (xcv ad)).reverse ++ .ref (ad 30 q) :: rest.map (xcv ad) := by
    show List.map (xcv ad) _ = _
    simp [xcv]
  exact va_runV (As := as'.map (xcv ad)) hcf hMt ⟨callB_of n hts hG rfl rfl rfl (hts _ w4) (hts _ w1) hy hroom2, hts _ w2, hts _ w3⟩ ⟨xblind, hrc, hpre⟩ rfl (by rw [List.length_map]; exact hn) g4.1 hstk hsum hd cellsok
end XJC
theorem okJ_chA (l : Launch) (D : va_G) (cA : Nat → ClassId) (sA : Nat → Nat) (q : Nat) (i : Int32) (M : xM) (hq : q < 2) (hi : xin i (xstrN q) = true) : xMet l D cA sA yJ0_charAt_5068e cJ0_charAt_5068e 2 (some .char) xG 3 0 0 [.inr (.inr (30, some q)), .inl i] M (some (.inl (xstr q (xi i)))) M := by
  refine xmet_of (by decide +kernel) (Nat.le_of_ble_eq_true rfl) (fun p e s m ag below meth c A0 ad0 Z X hn hE => ?_)
  have hT : ∀ w ∈ xG, w ∈ (Cond.code yJ0_charAt_5068e cJ0_charAt_5068e 2 (some .char) :: xG) := fun w hw => List.mem_cons_of_mem _ hw
  have hN : xstrN q < 2 ^ 31 := by rcases (show q = 0 ∨ q = 1 by omega) with rfl | rfl <;> decide +kernel
  obtain ⟨j, hj, rfl, e1, h0, h1⟩ := xin_iff hi hN
  obtain ⟨b1, b2⟩ := xbyte_char q hq j hj
  refine xs_aload_n X dJ0_charAt_5068e_0 rfl ?_
  refine xs_callStr X (n := 0) (idx := 492) (as' := []) (rest := []) (okJ_lat l D cA sA q M hq) (xG_good cdJ_lat hT) (by omega) rfl (hT _ (xg 679 (by decide +kernel) (by decide +kernel))) (hT _ (xg 680 (by decide +kernel) (by decide +kernel))) (hT _ (xg 681 (by decide +kernel) (by decide +kernel))) (hT _ (xg 142 (by decide +kernel) (by decide +kernel))) ⟨by decide +kernel, by decide +kernel, by decide +kernel⟩ rfl dJ0_charAt_5068e_1 ⟨by show 2 ≤ 4; omega, by show 120 ≤ 240; omega, by decide⟩ (by decide) ?_
  refine xs_ifN X (tgt := 16) dJ0_charAt_5068e_4 (by decide) (by decide +kernel) ?_
  refine xs_aload_n X dJ0_charAt_5068e_7 rfl ?_
  refine xs_sval X (by omega) (hT _ (xg 2188 (by decide +kernel) (by decide +kernel))) dJ0_charAt_5068e_8 ?_
  refine xs_iload_n X dJ0_charAt_5068e_11 rfl ?_
  refine xs_call X (kd := 2) (n := 2) (idx := 495) (as := [.inr (.inr (30, some (10 + q))), .inl (nI j)]) (rest := []) (okJ_ch1 l D cA sA q (nI j) M hq hi) (xG_good cdJ_ch1 hT) ⟨hT _ (xg 762 (by decide +kernel) (by decide +kernel)), hT _ (xg 763 (by decide +kernel) (by decide +kernel)), hT _ (xg 143 (by decide +kernel) (by decide +kernel))⟩ ⟨by decide +kernel, by decide +kernel, by decide +kernel⟩ (fun z => absurd z (by decide)) rfl (fun z => absurd rfl z) rfl (by decide) dJ0_charAt_5068e_12 ⟨Nat.le_refl _, Nat.le_refl _, by decide⟩ (by decide) (Nat.le_refl _) (Nat.le_refl _) ?_
  exact hE 15 0 0 _ .ireturn dJ0_charAt_5068e_15 (Or.inl ⟨rfl, _, .char, rfl, rfl, by rw [e1, ← b1]; exact pk_nc _⟩)
theorem xstrF_at {ch : Int32} {j : Nat} (hj : j < 8) (h : xstr 0 j = ch) (h2 : ∀ i, i < j → xstr 0 i ≠ ch) : xstrF 0 ch = nI j := by
  unfold xstrF
  have : (List.range (xstrN 0)).find? (fun i => xstr 0 i == ch) = some j := List.find?_range_eq_some.mpr ⟨by simpa using h, List.mem_range.mpr hj, fun i hi => by simpa using h2 i hi⟩
  rw [this]
  rfl
theorem xstrF_none {ch : Int32} (h2 : ∀ i, i < 8 → xstr 0 i ≠ ch) : xstrF 0 ch = -1 := by
  unfold xstrF
  have : (List.range (xstrN 0)).find? (fun i => xstr 0 i == ch) = none := List.find?_range_eq_none.mpr (fun i hi => by simpa using h2 i hi)
  rw [this]
theorem xbyte_eq : ∀ k, k < 256 → ∀ j, j < 8 → ((xbyts.getD 0 []).getD j 0 = (nI k).toInt8.toInt32 ↔ xstr 0 j = nI k) := by decide +kernel
theorem okJ_canT (l : Launch) (D : va_G) (cA : Nat → ClassId) (sA : Nat → Nat) (ch : Int32) (M : xM) (h0 : ¬ ch < 0) (h1 : ¬ 255 < ch) : xMet l D cA sA yJ1_canEncode_9a6ad cJ1_canEncode_9a6ad 1 (some .boolean) xG 0 0 0 [.inl ch] M (some (.inl 1)) M := by
  refine xmet_of (by decide +kernel) (Nat.le_of_ble_eq_true rfl) (fun p e s m ag below meth c A0 ad0 Z X hn hE => ?_)
  refine xs_iload_n X dJ1_canEncode_9a6ad_0 rfl ?_
  refine xs_ifN X (tgt := 15) dJ1_canEncode_9a6ad_1 (by decide) (by simp only [xif]; rw [if_neg h0]) ?_
  refine xs_iload_n X dJ1_canEncode_9a6ad_4 rfl ?_
  refine xs_sipush X (v := 255) dJ1_canEncode_9a6ad_5 (by decide +kernel) ?_
  refine xs_icN X (tgt := 15) dJ1_canEncode_9a6ad_8 (by decide) (by simp only [xic]; rw [if_neg h1]) ?_
  refine xs_iconst X (v := 1) dJ1_canEncode_9a6ad_11 (by decide +kernel) ?_
  refine xs_goto X (tgt := 16) dJ1_canEncode_9a6ad_12 (by decide) ?_
  exact hE 16 0 0 _ .ireturn dJ1_canEncode_9a6ad_16 (Or.inl ⟨rfl, 1, .boolean, rfl, rfl, rfl⟩)
theorem okJ_canF (l : Launch) (D : va_G) (cA : Nat → ClassId) (sA : Nat → Nat) (ch : Int32) (M : xM) (h : ch < 0 ∨ (¬ ch < 0 ∧ 255 < ch)) : xMet l D cA sA yJ1_canEncode_9a6ad cJ1_canEncode_9a6ad 1 (some .boolean) xG 0 0 0 [.inl ch] M (some (.inl 0)) M := by
  refine xmet_of (by decide +kernel) (Nat.le_of_ble_eq_true rfl) (fun p e s m ag below meth c A0 ad0 Z X hn hE => ?_)
  have fin : ∀ ls, xWx p l e (xRoom 0 0 0) s m ag below meth c D cA A0 sA M ad0 1 Z 0 0 15 0 0 ls [] M := fun ls =>
    xs_iconst X (v := 0) dJ1_canEncode_9a6ad_15 (by decide +kernel) (hE 16 0 0 _ .ireturn dJ1_canEncode_9a6ad_16 (Or.inl ⟨rfl, 0, .boolean, rfl, rfl, rfl⟩))
  refine xs_iload_n X dJ1_canEncode_9a6ad_0 rfl ?_
  rcases h with h | ⟨h0, h1⟩
  · exact xs_ifJ X (tgt := 15) dJ1_canEncode_9a6ad_1 (by decide) (by simp only [xif]; rw [if_pos h]) (fin _)
  · refine xs_ifN X (tgt := 15) dJ1_canEncode_9a6ad_1 (by decide) (by simp only [xif]; rw [if_neg h0]) ?_
    refine xs_iload_n X dJ1_canEncode_9a6ad_4 rfl ?_
    refine xs_sipush X (v := 255) dJ1_canEncode_9a6ad_5 (by decide +kernel) ?_
    exact xs_icJ X (tgt := 15) dJ1_canEncode_9a6ad_8 (by decide) (by simp only [xic]; rw [if_pos h1]) (fin _)
theorem okJ_cod (l : Launch) (D : va_G) (cA : Nat → ClassId) (sA : Nat → Nat) (M : xM) : xMet l D cA sA yJ0_coder_7d493 cJ0_coder_7d493 1 (some .byte) xG 0 0 0 [.inr (.inr (30, some 0))] M (some (.inl 0)) M := by
  refine xmet_of (by decide +kernel) (Nat.le_of_ble_eq_true rfl) (fun p e s m ag below meth c A0 ad0 Z X hn hE => ?_)
  have hT : ∀ w ∈ xG, w ∈ (Cond.code yJ0_coder_7d493 cJ0_coder_7d493 1 (some .byte) :: xG) := fun w hw => List.mem_cons_of_mem _ hw
  refine xs_scomp X (hT _ (xg 683 (by decide +kernel) (by decide +kernel))) dJ0_coder_7d493_0 ?_
  refine xs_ifN X (tgt := 13) dJ0_coder_7d493_3 (by decide) (by decide +kernel) ?_
  refine xs_aload_n X dJ0_coder_7d493_6 rfl ?_
  refine xs_scod X (by omega) (hT _ (xg 2187 (by decide +kernel) (by decide +kernel))) dJ0_coder_7d493_7 ?_
  refine xs_goto X (tgt := 14) dJ0_coder_7d493_10 (by decide) ?_
  exact hE 14 0 0 _ .ireturn dJ0_coder_7d493_14 (Or.inl ⟨rfl, 0, .byte, rfl, rfl, rfl⟩)
theorem okJ_len (l : Launch) (D : va_G) (cA : Nat → ClassId) (sA : Nat → Nat) (M : xM) : xMet l D cA sA yJ0_length_8abf5 cJ0_length_8abf5 1 (some .int) xG 1 0 0 [.inr (.inr (30, some 0))] M (some (.inl 8)) M := by
  refine xmet_of (by decide +kernel) (Nat.le_of_ble_eq_true rfl) (fun p e s m ag below meth c A0 ad0 Z X hn hE => ?_)
  have hT : ∀ w ∈ xG, w ∈ (Cond.code yJ0_length_8abf5 cJ0_length_8abf5 1 (some .int) :: xG) := fun w hw => List.mem_cons_of_mem _ hw
  refine xs_aload_n X dJ0_length_8abf5_0 rfl ?_
  refine xs_sval X (by omega) (hT _ (xg 2188 (by decide +kernel) (by decide +kernel))) dJ0_length_8abf5_1 ?_
  refine xs_slen X (q := 0) (by omega) dJ0_length_8abf5_4 ?_
  refine xs_aload_n X dJ0_length_8abf5_5 rfl ?_
  refine xs_callStr X (n := 0) (idx := 335) (as' := []) (okJ_cod l D cA sA M) (xG_good cdJ_cod hT) (by omega) rfl (hT _ (xg 689 (by decide +kernel) (by decide +kernel))) (hT _ (xg 690 (by decide +kernel) (by decide +kernel))) (hT _ (xg 691 (by decide +kernel) (by decide +kernel))) (hT _ (xg 142 (by decide +kernel) (by decide +kernel))) ⟨by decide +kernel, by decide +kernel, by decide +kernel⟩ rfl dJ0_length_8abf5_6 ⟨Nat.le_refl _, Nat.le_refl _, by decide⟩ (by decide) ?_
  refine xs_ishr X dJ0_length_8abf5_9 ?_
  exact hE 10 0 0 _ .ireturn dJ0_length_8abf5_10 (Or.inl ⟨rfl, 8, .int, rfl, rfl, rfl⟩)
theorem okJ_ixc (l : Launch) (D : va_G) (cA : Nat → ClassId) (sA : Nat → Nat) (ch : Int32) (M : xM) (h0 : ¬ ch < 0) (h1 : ¬ 255 < ch) : xMet l D cA sA yJ1_indexOfChar_4cfef cJ1_indexOfChar_4cfef 6 (some .int) xG 0 0 0 [.inr (.inr (30, some 10)), .inl ch, .inl 0, .inl 8] M (some (.inl (xstrF 0 ch))) M := by
  obtain ⟨k, hk, rfl⟩ := nI_of h0
  have hk2 : k < 256 := by
    rcases Nat.lt_or_ge k 256 with h | h
    · exact h
    · exact absurd (nI_lt (a := 255) (b := k) (by omega) hk) h1
  refine xmet_of (by decide +kernel) (Nat.le_of_ble_eq_true rfl) (fun p e s m ag below meth c A0 ad0 Z X hn hE => ?_)
  have loop : ∀ n j, n + j = 8 → (∀ i, i < j → xstr 0 i ≠ nI k) → xWx p l e (xRoom 0 0 0) s m ag below meth c D cA A0 sA M ad0 6 Z 0 0 7 0 0 [(0, .inr (.inr (30, some 10))), (3, .inl 8), (4, .inl (nI k).toInt8.toInt32), (5, .inl (nI j))] [] M := by
    intro n
    induction n with
    | zero =>
      intro j hj hno
      obtain rfl : j = 8 := by omega
      refine xs_iload X dJ1_indexOfChar_4cfef_7 rfl ?_
      refine xs_iload_n X dJ1_indexOfChar_4cfef_9 rfl ?_
      refine xs_icJ X (tgt := 31) dJ1_indexOfChar_4cfef_10 (by decide) (by decide +kernel) ?_
      refine xs_iconst X (v := -1) dJ1_indexOfChar_4cfef_31 (by decide +kernel) ?_
      have h9 := hE 32 0 0 [(0, .inr (.inr (30, some 10))), (3, .inl 8), (4, .inl (nI k).toInt8.toInt32), (5, .inl (nI 8))] .ireturn dJ1_indexOfChar_4cfef_32 (Or.inl ⟨rfl, _, .int, rfl, rfl, rfl⟩)
      rw [xstrF_none hno] at h9
      exact h9
    | succ n ih =>
      intro j hj hno
      refine xs_iload X dJ1_indexOfChar_4cfef_7 rfl ?_
      refine xs_iload_n X dJ1_indexOfChar_4cfef_9 rfl ?_
      refine xs_icN X (tgt := 31) dJ1_indexOfChar_4cfef_10 (by decide) (by simp only [xic]; rw [if_neg (show ¬ (8 : Int32) ≤ nI j from nI_ge (a := j) (b := 8) (by omega) (by omega))]) ?_
      refine xs_aload_n X dJ1_indexOfChar_4cfef_13 rfl ?_
      refine xs_iload X dJ1_indexOfChar_4cfef_14 rfl ?_
      refine xs_sbyte X (q := 0) (by omega) dJ1_indexOfChar_4cfef_16 (vp_in_nI (by show j < 8; omega) (by decide)) ?_
      have e1 : xi (nI j) = j := nI_clamp (by omega)
      rw [e1]
      refine xs_iload X dJ1_indexOfChar_4cfef_17 rfl ?_
      by_cases hc : xstr 0 j = nI k
      · refine xs_icN X (tgt := 25) dJ1_indexOfChar_4cfef_19 (by decide) (by simp only [xic]; rw [if_neg (fun z => z ((xbyte_eq k hk2 j (by omega)).mpr hc))]) ?_
        refine xs_iload X dJ1_indexOfChar_4cfef_22 rfl ?_
        have h9 := hE 24 0 0 [(0, .inr (.inr (30, some 10))), (3, .inl 8), (4, .inl (nI k).toInt8.toInt32), (5, .inl (nI j))] .ireturn dJ1_indexOfChar_4cfef_24 (Or.inl ⟨rfl, _, .int, rfl, rfl, rfl⟩)
        rw [xstrF_at (by omega) hc hno] at h9
        exact h9
      · refine xs_icJ X (tgt := 25) dJ1_indexOfChar_4cfef_19 (by decide) (by simp only [xic]; rw [if_pos (fun z => hc ((xbyte_eq k hk2 j (by omega)).mp z))]) ?_
        refine xs_iinc X (v := 1) (x := nI j) dJ1_indexOfChar_4cfef_25 (by decide +kernel) (by decide) rfl ?_
        refine xs_goto X (tgt := 7) dJ1_indexOfChar_4cfef_28 (by decide) ?_
        refine xWx_ls (ih (j + 1) (by omega) (fun i hi => ?_)) (List.forall_mem_cons.mpr ⟨rfl, List.forall_mem_cons.mpr ⟨rfl, List.forall_mem_cons.mpr ⟨rfl, List.forall_mem_cons.mpr ⟨?_, fun _ h => nomatch h⟩⟩⟩⟩)
        · rcases Nat.lt_or_ge i j with h | h
          · exact hno i h
          · obtain rfl : i = j := by omega
            exact hc
        · show some (Sum.inl (nI j + 1) : xV) = _
          rw [nI_1]
  refine xs_iload_n X dJ1_indexOfChar_4cfef_0 rfl ?_
  refine xs_i2b X dJ1_indexOfChar_4cfef_1 ?_
  refine xs_istore X dJ1_indexOfChar_4cfef_2 (by decide) ?_
  refine xs_iload_n X dJ1_indexOfChar_4cfef_4 rfl ?_
  refine xs_istore X dJ1_indexOfChar_4cfef_5 (by decide) ?_
  exact xWx_ls (loop 8 0 rfl (fun i hi => absurd hi (Nat.not_lt_zero i))) (List.forall_mem_cons.mpr ⟨rfl, List.forall_mem_cons.mpr ⟨rfl, List.forall_mem_cons.mpr ⟨rfl, List.forall_mem_cons.mpr ⟨rfl, fun _ h => nomatch h⟩⟩⟩⟩)
theorem xstr_small : ∀ i, i < 8 → ¬ xstr 0 i < 0 ∧ ¬ 255 < xstr 0 i := by decide +kernel
section XJD
variable {p : Program} {l : Launch} {e : Env} {R : Room} {s : State} {m : MethodId} {args : Array Value} {below : List Frame} {meth : Method} {c : Code} {D : va_G} {cA : Nat → ClassId} {A0 : Nat → Prop} {sA : Nat → Nat} {M0 : xM} {ad0 : Nat → Nat → Nat} {nL : Nat} {cc : ByteArray} {own : String} {Ts : List Cond} {Z : State → Prop} {mcT msT : Nat}
variable {pc bc bs : Nat} {ls : xLs} {st : List xV} {M : xM}
theorem xs_max0 (X : xCtx p R s m args c D cA A0 sA nL cc own Ts mcT msT) {idx : Nat} {x : Int32} (hT : ∀ w ∈ xG, w ∈ Ts) (w1 : Cond.methodLink own idx Lib.Math.max.name ∈ xG) (hd : decode cc pc = .ok (.invokestatic idx, 3)) (hc : xcats st ≤ 8) (hv : ∀ v, w_max [.inl x, .inl 0] M (fun v M' => some (v, M')) = some v → v = (some (.inl 0), M)) (hx : (w_max [.inl x, .inl 0] M (fun v M' => some (v, M'))).isSome = true) (k : xWx p l e R s m args below meth c D cA A0 sA M0 ad0 nL Z mcT msT (pc + 3) bc bs ls (.inl 0 :: st) M) : xWx p l e R s m args below meth c D cA A0 sA M0 ad0 nL Z mcT msT pc bc bs ls (.inl 0 :: .inl x :: st) M := by
  obtain ⟨v, h9⟩ := Option.isSome_iff_exists.mp hx
  obtain rfl := hv v h9
  refine xent_max (ρ := Option xV × xM) (r := (some (.inl 0), M)) (kd := [(idx, 2)]) X hT w1 (xg 429 (by decide +kernel) (by decide +kernel)) (xg 136 (by decide +kernel) (by decide +kernel)) (xg 430 (by decide +kernel) (by decide +kernel)) (by unfold xfind; rw [Nat.beq_refl]) 2 (by unfold xfind; rw [Nat.beq_refl]) pc bc bs ls [.inl x, .inl 0] st M (fun v M' => some (v, M')) hd rfl h9 hc (Nat.zero_le _) (Nat.zero_le _) (fun v M' h => ?_)
  cases h
  exact k
theorem xs_min0 (X : xCtx p R s m args c D cA A0 sA nL cc own Ts mcT msT) {idx : Nat} {x : Int32} (hT : ∀ w ∈ xG, w ∈ Ts) (w1 : Cond.methodLink own idx Lib.Math.min.name ∈ xG) (hd : decode cc pc = .ok (.invokestatic idx, 3)) (hc : xcats st ≤ 8) (h9 : w_min [.inl x, .inl x] M (fun v M' => some (v, M')) = some (some (.inl x), M)) (k : xWx p l e R s m args below meth c D cA A0 sA M0 ad0 nL Z mcT msT (pc + 3) bc bs ls (.inl x :: st) M) : xWx p l e R s m args below meth c D cA A0 sA M0 ad0 nL Z mcT msT pc bc bs ls (.inl x :: .inl x :: st) M := by
  refine xent_min (ρ := Option xV × xM) (r := (some (.inl x), M)) (kd := [(idx, 2)]) X hT w1 (xg 426 (by decide +kernel) (by decide +kernel)) (xg 136 (by decide +kernel) (by decide +kernel)) (xg 427 (by decide +kernel) (by decide +kernel)) (by unfold xfind; rw [Nat.beq_refl]) 2 (by unfold xfind; rw [Nat.beq_refl]) pc bc bs ls [.inl x, .inl x] st M (fun v M' => some (v, M')) hd rfl h9 hc (Nat.zero_le _) (Nat.zero_le _) (fun v M' h => ?_)
  cases h
  exact k
end XJD
theorem okJ_ix1 (l : Launch) (D : va_G) (cA : Nat → ClassId) (sA : Nat → Nat) (ch : Int32) (M : xM) : xMet l D cA sA yJ1_indexOf_4cfef cJ1_indexOf_4cfef 4 (some .int) xG 1 0 0 [.inr (.inr (30, some 10)), .inl ch, .inl 0, .inl 8] M (some (.inl (xstrF 0 ch))) M := by
  refine xmet_of (by decide +kernel) (Nat.le_of_ble_eq_true rfl) (fun p e s m ag below meth c A0 ad0 Z X hn hE => ?_)
  have hT : ∀ w ∈ xG, w ∈ (Cond.code yJ1_indexOf_4cfef cJ1_indexOf_4cfef 4 (some .int) :: xG) := fun w hw => List.mem_cons_of_mem _ hw
  have enc := fun (v : Int32) (hM : xMet l D cA sA yJ1_canEncode_9a6ad cJ1_canEncode_9a6ad 1 (some .boolean) xG 0 0 0 [.inl ch] M (some (.inl v)) M) (k : _) => xs_call X (pc := 1) (bc := 0) (bs := 0) (ls := xargs 0 [.inr (.inr (30, some 10)), .inl ch, .inl 0, .inl 8]) (below := below) (meth := meth) (Z := Z) (M0 := M) (ad0 := ad0) (l := l) (e := e) (kd := 2) (n := 1) (idx := 88) (as := [.inl ch]) (rest := []) hM (xG_good cdJ_can hT) ⟨hT _ (xg 696 (by decide +kernel) (by decide +kernel)), hT _ (xg 697 (by decide +kernel) (by decide +kernel)), hT _ (xg 143 (by decide +kernel) (by decide +kernel))⟩ ⟨by decide +kernel, by decide +kernel, by decide +kernel⟩ (fun z => absurd z (by decide)) rfl (fun z => absurd rfl z) rfl (by decide) dJ1_indexOf_4cfef_1 ⟨Nat.le_refl _, Nat.le_refl _, by decide⟩ (by decide) (Nat.le_refl _) (Nat.le_refl _) k
  by_cases h : ch < 0 ∨ (¬ ch < 0 ∧ 255 < ch)
  · refine xs_iload_n X dJ1_indexOf_4cfef_0 rfl ?_
    refine enc 0 (okJ_canF l D cA sA ch M h) ?_
    refine xs_ifN X (tgt := 9) dJ1_indexOf_4cfef_4 (by decide) (by decide +kernel) ?_
    refine xs_iconst X (v := -1) dJ1_indexOf_4cfef_7 (by decide +kernel) ?_
    have h9 := hE 8 0 0 (xargs 0 [.inr (.inr (30, some 10)), .inl ch, .inl 0, .inl 8]) .ireturn dJ1_indexOf_4cfef_8 (Or.inl ⟨rfl, _, .int, rfl, rfl, rfl⟩)
    rw [xstrF_none (fun i hi hz => ?_)] at h9
    · exact h9
    · have hb := xstr_small i hi
      rw [hz] at hb
      rcases h with h | h
      · exact hb.1 h
      · exact hb.2 h.2
  · have h0 : ¬ ch < 0 := fun z => h (Or.inl z)
    have h1 : ¬ 255 < ch := fun z => h (Or.inr ⟨h0, z⟩)
    refine xs_iload_n X dJ1_indexOf_4cfef_0 rfl ?_
    refine enc 1 (okJ_canT l D cA sA ch M h0 h1) ?_
    refine xs_ifJ X (tgt := 9) dJ1_indexOf_4cfef_4 (by decide) (by decide +kernel) ?_
    refine xs_iload_n X dJ1_indexOf_4cfef_9 rfl ?_
    refine xs_iconst X (v := 0) dJ1_indexOf_4cfef_10 (by decide +kernel) ?_
    refine xs_max0 X hT (xg 699 (by decide +kernel) (by decide +kernel)) dJ1_indexOf_4cfef_11 (by decide) (fun v hv => by cases hv; rfl) rfl ?_
    refine xs_istore_n X dJ1_indexOf_4cfef_14 (by decide) ?_
    refine xs_iload_n X dJ1_indexOf_4cfef_15 rfl ?_
    refine xs_aload_n X dJ1_indexOf_4cfef_16 rfl ?_
    refine xs_slen X (q := 0) (by omega) dJ1_indexOf_4cfef_17 ?_
    refine xs_min0 X hT (xg 700 (by decide +kernel) (by decide +kernel)) dJ1_indexOf_4cfef_18 (by decide) rfl ?_
    refine xs_istore_n X dJ1_indexOf_4cfef_21 (by decide) ?_
    refine xs_iload_n X dJ1_indexOf_4cfef_22 rfl ?_
    refine xs_iload_n X dJ1_indexOf_4cfef_23 rfl ?_
    refine xs_icJ X (tgt := 29) dJ1_indexOf_4cfef_24 (by decide) (by decide +kernel) ?_
    refine xs_aload_n X dJ1_indexOf_4cfef_29 rfl ?_
    refine xs_iload_n X dJ1_indexOf_4cfef_30 rfl ?_
    refine xs_iload_n X dJ1_indexOf_4cfef_31 rfl ?_
    refine xs_iload_n X dJ1_indexOf_4cfef_32 rfl ?_
    refine xs_call X (kd := 2) (n := 4) (idx := 95) (as := [.inr (.inr (30, some 10)), .inl ch, .inl 0, .inl 8]) (rest := []) (okJ_ixc l D cA sA ch M h0 h1) (xG_good cdJ_ixc hT) ⟨hT _ (xg 701 (by decide +kernel) (by decide +kernel)), hT _ (xg 702 (by decide +kernel) (by decide +kernel)), hT _ (xg 143 (by decide +kernel) (by decide +kernel))⟩ ⟨by decide +kernel, by decide +kernel, by decide +kernel⟩ (fun z => absurd z (by decide)) rfl (fun z => absurd rfl z) rfl (by decide) dJ1_indexOf_4cfef_33 ⟨Nat.le_refl _, Nat.le_refl _, by decide⟩ (by decide) (Nat.le_refl _) (Nat.le_refl _) ?_
    exact hE 36 0 0 _ .ireturn dJ1_indexOf_4cfef_36 (Or.inl ⟨rfl, _, .int, rfl, rfl, rfl⟩)
theorem okJ_ix2 (l : Launch) (D : va_G) (cA : Nat → ClassId) (sA : Nat → Nat) (ch : Int32) (M : xM) : xMet l D cA sA yJ0_indexOf_7cf53 cJ0_indexOf_7cf53 3 (some .int) xG 2 0 0 [.inr (.inr (30, some 0)), .inl ch, .inl 0] M (some (.inl (xstrF 0 ch))) M := by
  refine xmet_of (by decide +kernel) (Nat.le_of_ble_eq_true rfl) (fun p e s m ag below meth c A0 ad0 Z X hn hE => ?_)
  have hT : ∀ w ∈ xG, w ∈ (Cond.code yJ0_indexOf_7cf53 cJ0_indexOf_7cf53 3 (some .int) :: xG) := fun w hw => List.mem_cons_of_mem _ hw
  refine xs_aload_n X dJ0_indexOf_7cf53_0 rfl ?_
  refine xs_callStr X (n := 0) (idx := 492) (as' := []) (rest := []) (okJ_lat l D cA sA 0 M (by omega)) (xG_good cdJ_lat hT) (by omega) rfl (hT _ (xg 679 (by decide +kernel) (by decide +kernel))) (hT _ (xg 680 (by decide +kernel) (by decide +kernel))) (hT _ (xg 681 (by decide +kernel) (by decide +kernel))) (hT _ (xg 142 (by decide +kernel) (by decide +kernel))) ⟨by decide +kernel, by decide +kernel, by decide +kernel⟩ rfl dJ0_indexOf_7cf53_1 ⟨by show 2 ≤ 3; omega, by show 120 ≤ 180; omega, by decide⟩ (by decide) ?_
  refine xs_ifN X (tgt := 23) dJ0_indexOf_7cf53_4 (by decide) (by decide +kernel) ?_
  refine xs_aload_n X dJ0_indexOf_7cf53_7 rfl ?_
  refine xs_sval X (by omega) (hT _ (xg 2188 (by decide +kernel) (by decide +kernel))) dJ0_indexOf_7cf53_8 ?_
  refine xs_iload_n X dJ0_indexOf_7cf53_11 rfl ?_
  refine xs_iload_n X dJ0_indexOf_7cf53_12 rfl ?_
  refine xs_aload_n X dJ0_indexOf_7cf53_13 rfl ?_
  refine xs_callStr X (n := 0) (idx := 505) (as' := []) (okJ_len l D cA sA M) (xG_good cdJ_len hT) (by omega) rfl (hT _ (xg 685 (by decide +kernel) (by decide +kernel))) (hT _ (xg 686 (by decide +kernel) (by decide +kernel))) (hT _ (xg 687 (by decide +kernel) (by decide +kernel))) (hT _ (xg 142 (by decide +kernel) (by decide +kernel))) ⟨by decide +kernel, by decide +kernel, by decide +kernel⟩ rfl dJ0_indexOf_7cf53_14 ⟨by show 3 ≤ 3; omega, by show 180 ≤ 180; omega, by decide⟩ (by show 3 ≤ 8; omega) ?_
  refine xs_call X (kd := 2) (n := 4) (idx := 637) (as := [.inr (.inr (30, some 10)), .inl ch, .inl 0, .inl 8]) (rest := []) (okJ_ix1 l D cA sA ch M) (xG_good cdJ_ix1 hT) ⟨hT _ (xg 693 (by decide +kernel) (by decide +kernel)), hT _ (xg 694 (by decide +kernel) (by decide +kernel)), hT _ (xg 143 (by decide +kernel) (by decide +kernel))⟩ ⟨by decide +kernel, by decide +kernel, by decide +kernel⟩ (fun z => absurd z (by decide)) rfl (fun z => absurd rfl z) rfl (by decide) dJ0_indexOf_7cf53_17 ⟨Nat.le_refl _, Nat.le_refl _, by decide⟩ (by decide) (Nat.le_refl _) (Nat.le_refl _) ?_
  refine xs_goto X (tgt := 36) dJ0_indexOf_7cf53_20 (by decide) ?_
  exact hE 36 0 0 _ .ireturn dJ0_indexOf_7cf53_36 (Or.inl ⟨rfl, _, .int, rfl, rfl, rfl⟩)
theorem okJ_ix0 (l : Launch) (D : va_G) (cA : Nat → ClassId) (sA : Nat → Nat) (ch : Int32) (M : xM) : xMet l D cA sA yJ0_indexOf_0f7a4 cJ0_indexOf_0f7a4 2 (some .int) xG 3 0 0 [.inr (.inr (30, some 0)), .inl ch] M (some (.inl (xstrF 0 ch))) M := by
  refine xmet_of (by decide +kernel) (Nat.le_of_ble_eq_true rfl) (fun p e s m ag below meth c A0 ad0 Z X hn hE => ?_)
  have hT : ∀ w ∈ xG, w ∈ (Cond.code yJ0_indexOf_0f7a4 cJ0_indexOf_0f7a4 2 (some .int) :: xG) := fun w hw => List.mem_cons_of_mem _ hw
  refine xs_aload_n X dJ0_indexOf_0f7a4_0 rfl ?_
  refine xs_iload_n X dJ0_indexOf_0f7a4_1 rfl ?_
  refine xs_iconst X (v := 0) dJ0_indexOf_0f7a4_2 (by decide +kernel) ?_
  refine xs_callStr X (n := 2) (idx := 633) (as' := [.inl ch, .inl 0]) (rest := []) (okJ_ix2 l D cA sA ch M) (xG_good cdJ_ix2 hT) (by omega) rfl (hT _ (xg 675 (by decide +kernel) (by decide +kernel))) (hT _ (xg 676 (by decide +kernel) (by decide +kernel))) (hT _ (xg 677 (by decide +kernel) (by decide +kernel))) (hT _ (xg 142 (by decide +kernel) (by decide +kernel))) ⟨by decide +kernel, by decide +kernel, by decide +kernel⟩ rfl dJ0_indexOf_0f7a4_3 ⟨Nat.le_refl _, Nat.le_refl _, by decide⟩ (by decide) ?_
  exact hE 6 0 0 _ .ireturn dJ0_indexOf_0f7a4_6 (Or.inl ⟨rfl, _, .int, rfl, rfl, rfl⟩)
section XJE
variable {p : Program} {l : Launch} {e : Env} {R : Room} {s : State} {m : MethodId} {args : Array Value} {below : List Frame} {meth : Method} {c : Code} {D : va_G} {cA : Nat → ClassId} {A0 : Nat → Prop} {sA : Nat → Nat} {M0 : xM} {ad0 : Nat → Nat → Nat} {nL : Nat} {cc : ByteArray} {own : String} {Ts : List Cond} {Z : State → Prop} {mcT msT : Nat}
variable {ρ : Type} {r : ρ} {kd : List (Nat × Nat)}
theorem xent_charAt {idx h : Nat} (X : xCtx p R s m args c D cA A0 sA nL cc own Ts mcT msT) (hT : ∀ w ∈ xG, w ∈ Ts) (w1 : Cond.methodLink own idx yJ0_charAt_5068e ∈ xG) (hk1 : xfind idx kd = some 0) (h6 : 6 ≤ h) (hroom : h + 2 ≤ R.frames ∧ 60 * (h + 2) ≤ R.locals) :
    xEnt p l e R s m args below meth c D cA A0 sA M0 ad0 nL cc Z mcT msT kd r (idx, 2, 0, 0, w_charAt) := by
  intro kd0 hk pc bc bs ls as rest M k hd hlen hwk hcat hkc hks hcont
  rw [hk1] at hk
  cases hk
  unfold w_charAt at hwk
  replace hwk := pR_some hwk
  obtain ⟨o, as1, rfl, hwk⟩ := hwk
  replace hwk := bd_some hwk
  obtain ⟨q, rfl, hwk⟩ := hwk
  replace hwk := pI_some hwk
  obtain ⟨i, as2, rfl, hwk⟩ := hwk
  replace hwk := xe_some hwk
  obtain ⟨rfl, hwk⟩ := hwk
  replace hwk := gd_some hwk
  obtain ⟨hi, hwk⟩ := hwk
  have hq : q < 2 := by
    rcases Nat.lt_or_ge q 2 with h | h
    · exact h
    · obtain ⟨q', rfl⟩ : ∃ q', q = q' + 2 := ⟨q - 2, by omega⟩
      have : xstrN (q' + 2) = 0 := rfl
      rw [this] at hi
      cases hi
  exact xs_callStr X (n := 1) (okJ_chA l D cA sA q i M hq hi) (xG_good cdJ_chA hT) (by omega) rfl (hT _ w1) (hT _ (xg 759 (by decide +kernel) (by decide +kernel))) (hT _ (xg 760 (by decide +kernel) (by decide +kernel))) (hT _ (xg 142 (by decide +kernel) (by decide +kernel))) ⟨by decide +kernel, by decide +kernel, by decide +kernel⟩ rfl hd ⟨by omega, by omega, by decide⟩ hcat (hcont _ M hwk)
theorem xent_indexOf {idx h : Nat} (X : xCtx p R s m args c D cA A0 sA nL cc own Ts mcT msT) (hT : ∀ w ∈ xG, w ∈ Ts) (w1 : Cond.methodLink own idx yJ0_indexOf_0f7a4 ∈ xG) (hk1 : xfind idx kd = some 0) (h6 : 6 ≤ h) (hroom : h + 2 ≤ R.frames ∧ 60 * (h + 2) ≤ R.locals) :
    xEnt p l e R s m args below meth c D cA A0 sA M0 ad0 nL cc Z mcT msT kd r (idx, 2, 0, 0, w_indexOf) := by
  intro kd0 hk pc bc bs ls as rest M k hd hlen hwk hcat hkc hks hcont
  rw [hk1] at hk
  cases hk
  unfold w_indexOf at hwk
  replace hwk := pR_some hwk
  obtain ⟨o, as1, rfl, hwk⟩ := hwk
  replace hwk := bd_some hwk
  obtain ⟨q, rfl, hwk⟩ := hwk
  replace hwk := pI_some hwk
  obtain ⟨i, as2, rfl, hwk⟩ := hwk
  replace hwk := xe_some hwk
  obtain ⟨rfl, hwk⟩ := hwk
  replace hwk := gd_some hwk
  obtain ⟨hi, hwk⟩ := hwk
  obtain rfl := Nat.eq_of_beq_eq_true hi
  exact xs_callStr X (n := 1) (okJ_ix0 l D cA sA i M) (xG_good cdJ_ix0 hT) (by omega) rfl (hT _ w1) (hT _ (xg 672 (by decide +kernel) (by decide +kernel))) (hT _ (xg 673 (by decide +kernel) (by decide +kernel))) (hT _ (xg 142 (by decide +kernel) (by decide +kernel))) ⟨by decide +kernel, by decide +kernel, by decide +kernel⟩ rfl hd ⟨by omega, by omega, by decide⟩ hcat (hcont _ M hwk)
end XJE
