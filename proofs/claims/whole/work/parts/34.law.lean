def F_law (k : Nat) (xs : Nat → Int32) (n : Nat) (rec23 : Int32 × sHp → Option (Int32 × sHp)) (q : Int32 × sHp) : Option (Int32 × sHp) :=
  if ((Int32.ofNat k) - 5) < q.1 then (some (1, q.2)) else (sGd (sIn q.1 k) (if ((xs (ix q.1)) &&& 31) = 0 then (((J_S_clear n q.2).map (fun r => jnC q.2 r)).bind fun v133 =>
  ((J_M_clear n (sbH 42 v133)).map (fun r => jnM v133 r)).bind fun v137 =>
  rec23 ((q.1 + 5), v137)) else (if ((xs (ix q.1)) &&& 31) = 1 then (((J_L_room n q.2).map (fun r => (r.1, jnC q.2 r.2))).bind fun v145 =>
  ((J_M_room n (sbH 42 v145.2)).map (fun r => (r.1, jnM v145.2 r.2))).bind fun v151 =>
  (J_M_thrown n (sbH 42 v151.2)).bind fun v157 =>
  if v157 = v145.1 then (if v145.1 = 0 then (if (lg_cmp (v151.2.2 41 (ix 0)) (Int32.toInt64 v151.1)) = 0 then (rec23 ((q.1 + 5), v151.2)) else (some (0, v151.2))) else (rec23 ((q.1 + 5), v151.2))) else (some (0, v151.2))) else (if ((xs (ix q.1)) &&& 31) = 2 then (sGd (sIn (q.1 + 1) k) (sGd (sIn (q.1 + 2) k) (sGd (sIn (q.1 + 3) k) (sGd (sIn (q.1 + 4) k) (((J_L_exit n (xs (ix (q.1 + 1))) (xs (ix (q.1 + 2))) (xs (ix (q.1 + 3))) (xs (ix (q.1 + 4))) q.2).map (fun r => (r.1, jnC q.2 r.2))).bind fun v212 =>
  sGd (sIn (q.1 + 1) k) (sGd (sIn (q.1 + 2) k) (sGd (sIn (q.1 + 3) k) (sGd (sIn (q.1 + 4) k) (((J_M_exit n (xs (ix (q.1 + 1))) (xs (ix (q.1 + 2))) (xs (ix (q.1 + 3))) (xs (ix (q.1 + 4))) (sbH 42 v212.2)).map (fun r => jnM v212.2 r)).bind fun v242 =>
  (J_M_thrown n (sbH 42 v242)).bind fun v246 =>
  if v246 = v212.1 then (rec23 ((q.1 + 5), v242)) else (some (0, v242))))))))))) else (if ((xs (ix q.1)) &&& 31) = 3 then (sGd (sIn (q.1 + 1) k) (sGd (sIn (q.1 + 2) k) (((J_L_thing n (xs (ix (q.1 + 1))) (xs (ix (q.1 + 2))) q.2).map (fun r => (r.1, jnC q.2 r.2))).bind fun v273 =>
  sGd (sIn (q.1 + 1) k) (sGd (sIn (q.1 + 2) k) (((J_M_thing n (xs (ix (q.1 + 1))) (xs (ix (q.1 + 2))) (sbH 42 v273.2)).map (fun r => (r.1, jnM v273.2 r.2))).bind fun v291 =>
  (J_M_thrown n (sbH 42 v291.2)).bind fun v297 =>
  if v297 = v273.1 then (if v273.1 = 0 then (if (lg_cmp (v291.2.2 41 (ix 0)) (Int32.toInt64 v291.1)) = 0 then (rec23 ((q.1 + 5), v291.2)) else (some (0, v291.2))) else (rec23 ((q.1 + 5), v291.2))) else (some (0, v291.2))))))) else (if ((xs (ix q.1)) &&& 31) = 4 then (sGd (sIn (q.1 + 1) k) (sGd (sIn (q.1 + 2) k) (((J_L_number n (xs (ix (q.1 + 1))) (xs (ix (q.1 + 2))) q.2).map (fun r => (r.1, jnC q.2 r.2))).bind fun v341 =>
  sGd (sIn (q.1 + 1) k) (sGd (sIn (q.1 + 2) k) (((J_M_number n (xs (ix (q.1 + 1))) (xs (ix (q.1 + 2))) (sbH 42 v341.2)).map (fun r => (r.1, jnM v341.2 r.2))).bind fun v359 =>
  (J_M_thrown n (sbH 42 v359.2)).bind fun v365 =>
  if v365 = v341.1 then (if v341.1 = 0 then (if (lg_cmp (v359.2.2 41 (ix 0)) (Int32.toInt64 v359.1)) = 0 then (rec23 ((q.1 + 5), v359.2)) else (some (0, v359.2))) else (rec23 ((q.1 + 5), v359.2))) else (some (0, v359.2))))))) else (if ((xs (ix q.1)) &&& 31) = 5 then (sGd (sIn (q.1 + 1) k) (if (xs (ix (q.1 + 1))) = 0 then (((J_L_ending n 0 q.2).map (fun r => (r.1, jnC q.2 r.2))).bind fun v411 =>
  sGd (sIn (q.1 + 1) k) (((J_M_ending n 0 (sbH 42 v411.2)).map (fun r => (r.1, jnM v411.2 r.2))).bind fun v431 =>
  (J_M_thrown n (sbH 42 v431.2)).bind fun v437 =>
  if v437 = v411.1 then (if v411.1 = 0 then (if (lg_cmp (v431.2.2 41 (ix 0)) (Int32.toInt64 v431.1)) = 0 then (rec23 ((q.1 + 5), v431.2)) else (some (0, v431.2))) else (rec23 ((q.1 + 5), v431.2))) else (some (0, v431.2)))) else (((J_L_ending n 1 q.2).map (fun r => (r.1, jnC q.2 r.2))).bind fun v411 =>
  sGd (sIn (q.1 + 1) k) (if (xs (ix (q.1 + 1))) = 0 then (((J_M_ending n 0 (sbH 42 v411.2)).map (fun r => (r.1, jnM v411.2 r.2))).bind fun v431 =>
  (J_M_thrown n (sbH 42 v431.2)).bind fun v437 =>
  if v437 = v411.1 then (if v411.1 = 0 then (if (lg_cmp (v431.2.2 41 (ix 0)) (Int32.toInt64 v431.1)) = 0 then (rec23 ((q.1 + 5), v431.2)) else (some (0, v431.2))) else (rec23 ((q.1 + 5), v431.2))) else (some (0, v431.2))) else (((J_M_ending n 1 (sbH 42 v411.2)).map (fun r => (r.1, jnM v411.2 r.2))).bind fun v431 =>
  (J_M_thrown n (sbH 42 v431.2)).bind fun v437 =>
  if v437 = v411.1 then (if v411.1 = 0 then (if (lg_cmp (v431.2.2 41 (ix 0)) (Int32.toInt64 v431.1)) = 0 then (rec23 ((q.1 + 5), v431.2)) else (some (0, v431.2))) else (rec23 ((q.1 + 5), v431.2))) else (some (0, v431.2))))))) else (if ((xs (ix q.1)) &&& 31) = 6 then (sGd (sIn (q.1 + 1) k) (sGd (sIn (q.1 + 2) k) (sGd (sIn (q.1 + 3) k) (sGd (sIn (q.1 + 4) k) (((J_L_rule n (xs (ix (q.1 + 1))) (xs (ix (q.1 + 2))) (xs (ix (q.1 + 3))) (xs (ix (q.1 + 4))) q.2).map (fun r => (r.1, jnC q.2 r.2))).bind fun v493 =>
  sGd (sIn (q.1 + 1) k) (sGd (sIn (q.1 + 2) k) (sGd (sIn (q.1 + 3) k) (sGd (sIn (q.1 + 4) k) (((J_M_rule n (xs (ix (q.1 + 1))) (xs (ix (q.1 + 2))) (xs (ix (q.1 + 3))) (xs (ix (q.1 + 4))) (sbH 42 v493.2)).map (fun r => (r.1, jnM v493.2 r.2))).bind fun v523 =>
  (J_M_thrown n (sbH 42 v523.2)).bind fun v529 =>
  if v529 = v493.1 then (if v493.1 = 0 then (if (lg_cmp (v523.2.2 41 (ix 0)) (Int32.toInt64 v523.1)) = 0 then (rec23 ((q.1 + 5), v523.2)) else (some (0, v523.2))) else (rec23 ((q.1 + 5), v523.2))) else (some (0, v523.2))))))))))) else (if ((xs (ix q.1)) &&& 31) = 7 then (sGd (sIn (q.1 + 1) k) (sGd (sIn (q.1 + 2) k) (sGd (sIn (q.1 + 3) k) (sGd (sIn (q.1 + 4) k) (((J_L_condition n (xs (ix (q.1 + 1))) (xs (ix (q.1 + 2))) (xs (ix (q.1 + 3))) (xs (ix (q.1 + 4))) q.2).map (fun r => (r.1, jnC q.2 r.2))).bind fun v584 =>
  sGd (sIn (q.1 + 1) k) (sGd (sIn (q.1 + 2) k) (sGd (sIn (q.1 + 3) k) (sGd (sIn (q.1 + 4) k) (((J_M_condition n (xs (ix (q.1 + 1))) (xs (ix (q.1 + 2))) (xs (ix (q.1 + 3))) (xs (ix (q.1 + 4))) (sbH 42 v584.2)).map (fun r => jnM v584.2 r)).bind fun v614 =>
  (J_M_thrown n (sbH 42 v614)).bind fun v618 =>
  if v618 = v584.1 then (rec23 ((q.1 + 5), v614)) else (some (0, v614))))))))))) else (if ((xs (ix q.1)) &&& 31) = 8 then (sGd (sIn (q.1 + 1) k) (sGd (sIn (q.1 + 2) k) (sGd (sIn (q.1 + 3) k) (sGd (sIn (q.1 + 4) k) (((J_L_effect n (xs (ix (q.1 + 1))) (xs (ix (q.1 + 2))) (xs (ix (q.1 + 3))) (xs (ix (q.1 + 4))) q.2).map (fun r => (r.1, jnC q.2 r.2))).bind fun v656 =>
  sGd (sIn (q.1 + 1) k) (sGd (sIn (q.1 + 2) k) (sGd (sIn (q.1 + 3) k) (sGd (sIn (q.1 + 4) k) (((J_M_effect n (xs (ix (q.1 + 1))) (xs (ix (q.1 + 2))) (xs (ix (q.1 + 3))) (xs (ix (q.1 + 4))) (sbH 42 v656.2)).map (fun r => jnM v656.2 r)).bind fun v686 =>
  (J_M_thrown n (sbH 42 v686)).bind fun v690 =>
  if v690 = v656.1 then (rec23 ((q.1 + 5), v686)) else (some (0, v686))))))))))) else (if ((xs (ix q.1)) &&& 31) = 9 then (sGd (sIn (q.1 + 1) k) (sGd (sIn (q.1 + 2) k) (sGd (sIn (q.1 + 3) k) (sGd (sIn (q.1 + 4) k) (((J_L_walker n (xs (ix (q.1 + 1))) (xs (ix (q.1 + 2))) (xs (ix (q.1 + 3))) (xs (ix (q.1 + 4))) q.2).map (fun r => (r.1, jnC q.2 r.2))).bind fun v728 =>
  sGd (sIn (q.1 + 1) k) (sGd (sIn (q.1 + 2) k) (sGd (sIn (q.1 + 3) k) (sGd (sIn (q.1 + 4) k) (((J_M_walker n (xs (ix (q.1 + 1))) (xs (ix (q.1 + 2))) (xs (ix (q.1 + 3))) (xs (ix (q.1 + 4))) (sbH 42 v728.2)).map (fun r => jnM v728.2 r)).bind fun v758 =>
  (J_M_thrown n (sbH 42 v758)).bind fun v762 =>
  if v762 = v728.1 then (rec23 ((q.1 + 5), v758)) else (some (0, v758))))))))))) else (if ((xs (ix q.1)) &&& 31) = 10 then (sGd (sIn (q.1 + 1) k) (sGd (sIn (q.1 + 2) k) (((J_L_timer n (xs (ix (q.1 + 1))) (xs (ix (q.1 + 2))) q.2).map (fun r => (r.1, jnC q.2 r.2))).bind fun v788 =>
  sGd (sIn (q.1 + 1) k) (sGd (sIn (q.1 + 2) k) (((J_M_timer n (xs (ix (q.1 + 1))) (xs (ix (q.1 + 2))) (sbH 42 v788.2)).map (fun r => jnM v788.2 r)).bind fun v806 =>
  (J_M_thrown n (sbH 42 v806)).bind fun v810 =>
  if v810 = v788.1 then (rec23 ((q.1 + 5), v806)) else (some (0, v806))))))) else (if ((xs (ix q.1)) &&& 31) = 11 then (((J_L_begin n q.2).map (fun r => (r.1, jnC q.2 r.2))).bind fun v824 =>
  ((J_M_begin n (sbH 42 v824.2)).map (fun r => jnM v824.2 r)).bind fun v830 =>
  (J_M_thrown n (sbH 42 v830)).bind fun v834 =>
  if v834 = v824.1 then (rec23 ((q.1 + 5), v830)) else (some (0, v830))) else (if ((xs (ix q.1)) &&& 31) = 12 then (sGd (sIn (q.1 + 1) k) (sGd (sIn (q.1 + 2) k) (sGd (sIn (q.1 + 3) k) (((J_L_command n (xs (ix (q.1 + 1))) (xs (ix (q.1 + 2))) (xs (ix (q.1 + 3))) q.2).map (fun r => (r.1, jnC q.2 r.2))).bind fun v867 =>
  sGd (sIn (q.1 + 1) k) (sGd (sIn (q.1 + 2) k) (sGd (sIn (q.1 + 3) k) (((J_M_command n (xs (ix (q.1 + 1))) (xs (ix (q.1 + 2))) (xs (ix (q.1 + 3))) (sbH 42 v867.2)).map (fun r => (r.1, jnM v867.2 r.2))).bind fun v891 =>
  (J_M_thrown n (sbH 42 v891.2)).bind fun v897 =>
  if v897 = v867.1 then (if v867.1 = 0 then (if (lg_cmp (v891.2.2 41 (ix 0)) (Int32.toInt64 v891.1)) = 0 then (rec23 ((q.1 + 5), v891.2)) else (some (0, v891.2))) else (rec23 ((q.1 + 5), v891.2))) else (some (0, v891.2))))))))) else (if ((xs (ix q.1)) &&& 31) = 13 then (sGd (sIn (q.1 + 1) k) ((J_S_said n (xs (ix (q.1 + 1))) q.2).bind fun v934 =>
  sGd (sIn (q.1 + 1) k) (((J_M_said n (xs (ix (q.1 + 1))) (sbH 42 q.2)).map (fun r => (r.1, jnM q.2 r.2))).bind fun v944 =>
  if v934 = v944.1 then (rec23 ((q.1 + 5), v944.2)) else (some (0, v944.2))))) else (if ((xs (ix q.1)) &&& 31) = 14 then (((J_S_undo n q.2).map (fun r => (r.1, jnC q.2 r.2))).bind fun v953 =>
  ((J_M_undo n (sbH 42 v953.2)).map (fun r => (r.1, jnM v953.2 r.2))).bind fun v957 =>
  if v953.1 = v957.1 then (rec23 ((q.1 + 5), v957.2)) else (some (0, v957.2))) else (if ((xs (ix q.1)) &&& 31) = 15 then (sGd (sIn (q.1 + 1) k) (sGd (sIn (q.1 + 2) k) (((J_L_state n (xs (ix (q.1 + 1))) (xs (ix (q.1 + 2))) q.2).map (fun r => (r.1, jnC q.2 r.2))).bind fun v979 =>
  sGd (sIn (q.1 + 1) k) (sGd (sIn (q.1 + 2) k) (((J_M_state n (xs (ix (q.1 + 1))) (xs (ix (q.1 + 2))) (sbH 42 v979.2)).map (fun r => (r.1, jnM v979.2 r.2))).bind fun v997 =>
  (J_M_thrown n (sbH 42 v997.2)).bind fun v1003 =>
  if v1003 = v979.1 then (if v979.1 = 0 then (if (lg_cmp (v997.2.2 41 (ix 0)) (Int32.toInt64 v997.1)) = 0 then (rec23 ((q.1 + 5), v997.2)) else (some (0, v997.2))) else (rec23 ((q.1 + 5), v997.2))) else (some (0, v997.2))))))) else (if ((xs (ix q.1)) &&& 31) = 16 then (sGd (sIn (q.1 + 1) k) (((J_L_explore n (xs (ix (q.1 + 1))) q.2).map (fun r => (r.1, jnC q.2 r.2))).bind fun v1041 =>
  sGd (sIn (q.1 + 1) k) (((J_M_explore n (xs (ix (q.1 + 1))) (sbH 42 v1041.2)).map (fun r => (r.1, jnM v1041.2 r.2))).bind fun v1053 =>
  (J_M_thrown n (sbH 42 v1053.2)).bind fun v1059 =>
  if v1059 = v1041.1 then (if v1041.1 = 0 then (if (lg_cmp (v1053.2.2 41 (ix 0)) (Int32.toInt64 v1053.1)) = 0 then (rec23 ((q.1 + 5), v1053.2)) else (some (0, v1053.2))) else (rec23 ((q.1 + 5), v1053.2))) else (some (0, v1053.2))))) else (if ((xs (ix q.1)) &&& 31) = 17 then (sGd (sIn (q.1 + 1) k) (sGd (sIn (q.1 + 2) k) (if (xs (ix (q.1 + 2))) = 0 then (((J_L_reach n (xs (ix (q.1 + 1))) 0 q.2).map (fun r => (r.1, jnC q.2 r.2))).bind fun v1111 =>
  sGd (sIn (q.1 + 1) k) (sGd (sIn (q.1 + 2) k) (((J_M_reach n (xs (ix (q.1 + 1))) 0 (sbH 42 v1111.2)).map (fun r => (r.1, jnM v1111.2 r.2))).bind fun v1137 =>
  (J_M_thrown n (sbH 42 v1137.2)).bind fun v1143 =>
  if v1143 = v1111.1 then (if v1111.1 = 0 then (if (lg_cmp (v1137.2.2 41 (ix 0)) (Int32.toInt64 v1137.1)) = 0 then (rec23 ((q.1 + 5), v1137.2)) else (some (0, v1137.2))) else (rec23 ((q.1 + 5), v1137.2))) else (some (0, v1137.2))))) else (((J_L_reach n (xs (ix (q.1 + 1))) 1 q.2).map (fun r => (r.1, jnC q.2 r.2))).bind fun v1111 =>
  sGd (sIn (q.1 + 1) k) (sGd (sIn (q.1 + 2) k) (if (xs (ix (q.1 + 2))) = 0 then (((J_M_reach n (xs (ix (q.1 + 1))) 0 (sbH 42 v1111.2)).map (fun r => (r.1, jnM v1111.2 r.2))).bind fun v1137 =>
  (J_M_thrown n (sbH 42 v1137.2)).bind fun v1143 =>
  if v1143 = v1111.1 then (if v1111.1 = 0 then (if (lg_cmp (v1137.2.2 41 (ix 0)) (Int32.toInt64 v1137.1)) = 0 then (rec23 ((q.1 + 5), v1137.2)) else (some (0, v1137.2))) else (rec23 ((q.1 + 5), v1137.2))) else (some (0, v1137.2))) else (((J_M_reach n (xs (ix (q.1 + 1))) 1 (sbH 42 v1111.2)).map (fun r => (r.1, jnM v1111.2 r.2))).bind fun v1137 =>
  (J_M_thrown n (sbH 42 v1137.2)).bind fun v1143 =>
  if v1143 = v1111.1 then (if v1111.1 = 0 then (if (lg_cmp (v1137.2.2 41 (ix 0)) (Int32.toInt64 v1137.1)) = 0 then (rec23 ((q.1 + 5), v1137.2)) else (some (0, v1137.2))) else (rec23 ((q.1 + 5), v1137.2))) else (some (0, v1137.2))))))))) else (if ((xs (ix q.1)) &&& 31) = 18 then (sGd (sIn (q.1 + 1) k) (sGd (sIn (q.1 + 2) k) (sGd (sIn (q.1 + 3) k) (((J_L_way n (xs (ix (q.1 + 1))) (xs (ix (q.1 + 2))) (xs (ix (q.1 + 3))) q.2).map (fun r => (r.1, jnC q.2 r.2))).bind fun v1193 =>
  sGd (sIn (q.1 + 1) k) (sGd (sIn (q.1 + 2) k) (sGd (sIn (q.1 + 3) k) (((J_M_way n (xs (ix (q.1 + 1))) (xs (ix (q.1 + 2))) (xs (ix (q.1 + 3))) (sbH 42 v1193.2)).map (fun r => (r.1, jnM v1193.2 r.2))).bind fun v1217 =>
  (J_M_thrown n (sbH 42 v1217.2)).bind fun v1223 =>
  if v1223 = v1193.1 then (if v1193.1 = 0 then (if (lg_cmp (v1217.2.2 41 (ix 0)) (Int32.toInt64 v1217.1)) = 0 then (rec23 ((q.1 + 5), v1217.2)) else (some (0, v1217.2))) else (rec23 ((q.1 + 5), v1217.2))) else (some (0, v1217.2))))))))) else (if ((xs (ix q.1)) &&& 31) = 19 then (sGd (sIn (q.1 + 1) k) (sGd (sIn (q.1 + 2) k) (((J_L_study n (xs (ix (q.1 + 1))) (xs (ix (q.1 + 2))) q.2).map (fun r => (r.1, jnC q.2 r.2))).bind fun v1267 =>
  sGd (sIn (q.1 + 1) k) (sGd (sIn (q.1 + 2) k) (((J_M_study n (xs (ix (q.1 + 1))) (xs (ix (q.1 + 2))) (sbH 42 v1267.2)).map (fun r => (r.1, jnM v1267.2 r.2))).bind fun v1285 =>
  (J_M_thrown n (sbH 42 v1285.2)).bind fun v1291 =>
  if v1291 = v1267.1 then (if v1267.1 = 0 then (if (lg_cmp (v1285.2.2 41 (ix 0)) (Int32.toInt64 v1285.1)) = 0 then (rec23 ((q.1 + 5), v1285.2)) else (some (0, v1285.2))) else (rec23 ((q.1 + 5), v1285.2))) else (some (0, v1285.2))))))) else (rec23 ((q.1 + 5), q.2)))))))))))))))))))))))
set_option maxRecDepth 20000 in
set_option maxHeartbeats 8000000 in
theorem R_law (k : Nat) (xs : Nat → Int32) (n N : Nat) (V : sWo) : ∀ (M : sMa), sOk ZL M V code 7 "StoryStatesLaw" (some .boolean) room_1 → sOkl ZL k xs M V → sRm M N → ∀ q : Int32 × sHp, sS ZL M V (sEb sOi) 23 [(0, .ref 84), (1, .ref 0), (2, .ref 42), (3, .ref 41), (4, .int q.1)] [] q.2 (sFx (F_law k xs n) N q) := by
  refine r_fxL (fun q => [(0, .ref 84), (1, .ref 0), (2, .ref 42), (3, .ref 41), (4, .int q.1)]) (fun q => q.2) (F_law k xs n) (fun M O O2 T rec23 hrec23 q => ?_) N
  obtain ⟨qv0, qv1⟩ := q
  show sS ZL M V (sEb sOi) 23 [(0, .ref 84), (1, .ref 0), (2, .ref 42), (3, .ref 41), (4, .int qv0)] [] qv1 _
  unfold F_law
  try dsimp only
  refine r_iload (pc := 23) O d_L_law_23 4 rfl ?_
  refine r_aload_n (pc := 25) O d_L_law_25 0 rfl ?_
  refine r_slen (pc := 26) O T zl_n d_L_law_26 ?_
  refine r_iconst (pc := 27) O d_L_law_27 ic_5 ?_
  refine r_isub (pc := 28) O d_L_law_28 ?_
  refine r_icmp_gt (tgt := 1327) (pc := 29) O d_L_law_29 (by decide) (fun q29 => ?_) (fun q29 => ?_)
  · refine r_iconst (pc := 1327) O d_L_law_1327 ic_1 ?_
    exact r_zret (pc := 1328) O rfl d_L_law_1328 nb_1
  · refine r_aload_n (pc := 32) O d_L_law_32 0 rfl ?_
    refine r_iload (pc := 33) O d_L_law_33 4 rfl ?_
    refine r_sld (x := (xs (ix qv0))) (pc := 35) O T zl_n d_L_law_35 rfl ?_
    refine r_bipush (pc := 36) O d_L_law_36 bc_31 ?_
    refine r_iand (pc := 38) O d_L_law_38 ?_
    refine r_ite (fun q39_0 => ?_) (fun q39_0 => ?_)
    · refine r_tin (tgt := 132) (pc := 39) O d_L_law_39 (by rw [q39_0] <;> decide) (by rw [q39_0] <;> decide) (by rw [q39_0] <;> rfl) (by decide) ?_
      refine r_aload_n (pc := 132) O d_L_law_132 1 rfl ?_
      refine r_callVv (pc := 133) O [] zl_so zl_sc (sLv' (h := qv1) zl_c (R_S_clear n qv1)) cw_L_law_133 wm_268 wm_269 rfl (Nat.le_of_ble_eq_true rfl) d_L_law_133 rfl (fun v133 => ?_)
      refine r_aload_n (pc := 136) O d_L_law_136 2 rfl ?_
      refine r_callVv (pc := 137) O [] zl_ro zl_rc (sLv' (h := v133) zl_m (R_M_clear n (sbH 42 v133))) cw_L_law_137 wm_1108 wm_1109 rfl (Nat.le_of_ble_eq_true rfl) d_L_law_137 rfl (fun v137 => ?_)
      refine r_goto (pc := 140) O d_L_law_140 (tgt := 1321) (by decide) ?_
      refine r_iinc (lv' := [(4, .int (qv0 + 5)), (0, .ref 84), (1, .ref 0), (2, .ref 42), (3, .ref 41)]) (pc := 1321) O d_L_law_1321 4 rfl (congrArg (HAdd.hAdd _) ic_5) (by decide) rfl ?_
      refine r_goto (pc := 1324) O d_L_law_1324 (tgt := 23) (by decide) ?_
      refine r_up ?_
      exact r_lv [1, 2, 3, 4, 0] rfl (hrec23 ((qv0 + 5), v137))
    · refine r_ite (fun q39_1 => ?_) (fun q39_1 => ?_)
      · refine r_tin (tgt := 143) (pc := 39) O d_L_law_39 (by rw [q39_1] <;> decide) (by rw [q39_1] <;> decide) (by rw [q39_1] <;> rfl) (by decide) ?_
        refine r_aload_n (pc := 143) O d_L_law_143 1 rfl ?_
        refine r_aload_n (pc := 144) O d_L_law_144 3 rfl ?_
        refine r_callH (pc := 145) O O2 T [.ref 0, .ref 41] (sLh (h := qv1) zl_c (R_L_room n qv1)) ch_145 wm_319 rfl (Nat.le_of_ble_eq_true rfl) d_L_law_145 rfl (fun v145 => ?_)
        replace O := O2
        refine r_istore (lv' := [(5, .int v145.1), (0, .ref 84), (1, .ref 0), (2, .ref 42), (3, .ref 41), (4, .int qv0)]) (pc := 148) O d_L_law_148 (by decide) rfl ?_
        refine r_aload_n (pc := 150) O d_L_law_150 3 rfl ?_
        refine r_callVi (pc := 151) O [] zl_ro zl_rc (sLi (h := v145.2) zl_m (R_M_room n (sbH 42 v145.2))) cw_L_law_151 wm_1112 wm_1113 rfl (Nat.le_of_ble_eq_true rfl) d_L_law_151 rfl (fun v151 => ?_)
        refine r_istore (lv' := [(6, .int v151.1), (5, .int v145.1), (0, .ref 84), (1, .ref 0), (2, .ref 42), (3, .ref 41), (4, .int qv0)]) (pc := 154) O d_L_law_154 (by decide) rfl ?_
        refine r_aload_n (pc := 156) O d_L_law_156 4 rfl ?_
        refine r_callVip (pc := 157) O [] zl_ro zl_rc (sLip (h := v151.2) zl_m (R_M_thrown n (sbH 42 v151.2))) cw_L_law_157 wm_1104 wm_1105 rfl (Nat.le_of_ble_eq_true rfl) d_L_law_157 rfl (fun v157 => ?_)
        refine r_iload (pc := 160) O d_L_law_160 1 rfl ?_
        refine r_icmp_eq (tgt := 167) (pc := 162) O d_L_law_162 (by decide) (fun q162 => ?_) (fun q162 => ?_)
        · refine r_iload (pc := 167) O d_L_law_167 1 rfl ?_
          refine r_if_ne (tgt := 184) (pc := 169) O d_L_law_169 (by decide) (fun q169 => ?_) (fun q169 => ?_)
          · refine r_goto (pc := 184) O d_L_law_184 (tgt := 1321) (by decide) ?_
            refine r_iinc (lv' := [(4, .int (qv0 + 5)), (6, .int v151.1), (5, .int v145.1), (0, .ref 84), (1, .ref 0), (2, .ref 42), (3, .ref 41)]) (pc := 1321) O d_L_law_1321 6 rfl (congrArg (HAdd.hAdd _) ic_5) (by decide) rfl ?_
            refine r_goto (pc := 1324) O d_L_law_1324 (tgt := 23) (by decide) ?_
            exact r_lv [3, 4, 5, 6, 0] rfl (hrec23 ((qv0 + 5), v151.2))
          · refine r_aload_n (pc := 172) O d_L_law_172 5 rfl ?_
            refine r_iconst (pc := 173) O d_L_law_173 ic_0 ?_
            refine r_lald_c (x := (v151.2.2 41 (ix 0))) (pc := 174) O zl_o (sIn_iff.mp (by decide)) d_L_law_174 rfl ?_
            refine r_iload (pc := 175) O d_L_law_175 0 rfl ?_
            refine r_i2l (pc := 177) O d_L_law_177 ?_
            refine r_lcmp (pc := 178) O d_L_law_178 ?_
            refine r_if_eq (tgt := 184) (pc := 179) O d_L_law_179 (by decide) (fun q179 => ?_) (fun q179 => ?_)
            · refine r_goto (pc := 184) O d_L_law_184 (tgt := 1321) (by decide) ?_
              refine r_iinc (lv' := [(4, .int (qv0 + 5)), (6, .int v151.1), (5, .int v145.1), (0, .ref 84), (1, .ref 0), (2, .ref 42), (3, .ref 41)]) (pc := 1321) O d_L_law_1321 6 rfl (congrArg (HAdd.hAdd _) ic_5) (by decide) rfl ?_
              refine r_goto (pc := 1324) O d_L_law_1324 (tgt := 23) (by decide) ?_
              exact r_lv [3, 4, 5, 6, 0] rfl (hrec23 ((qv0 + 5), v151.2))
            · refine r_iconst (pc := 182) O d_L_law_182 ic_0 ?_
              exact r_zret (pc := 183) O rfl d_L_law_183 nb_0
        · refine r_iconst (pc := 165) O d_L_law_165 ic_0 ?_
          exact r_zret (pc := 166) O rfl d_L_law_166 nb_0
      · refine r_ite (fun q39_2 => ?_) (fun q39_2 => ?_)
        · refine r_tin (tgt := 187) (pc := 39) O d_L_law_39 (by rw [q39_2] <;> decide) (by rw [q39_2] <;> decide) (by rw [q39_2] <;> rfl) (by decide) ?_
          refine r_aload_n (pc := 187) O d_L_law_187 1 rfl ?_
          refine r_aload_n (pc := 188) O d_L_law_188 0 rfl ?_
          refine r_iload (pc := 189) O d_L_law_189 4 rfl ?_
          refine r_iconst (pc := 191) O d_L_law_191 ic_1 ?_
          refine r_iadd (pc := 192) O d_L_law_192 ?_
          refine r_sld (x := (xs (ix (qv0 + 1)))) (pc := 193) O T zl_n d_L_law_193 rfl ?_
          refine r_aload_n (pc := 194) O d_L_law_194 0 rfl ?_
          refine r_iload (pc := 195) O d_L_law_195 4 rfl ?_
          refine r_iconst (pc := 197) O d_L_law_197 ic_2 ?_
          refine r_iadd (pc := 198) O d_L_law_198 ?_
          refine r_sld (x := (xs (ix (qv0 + 2)))) (pc := 199) O T zl_n d_L_law_199 rfl ?_
          refine r_aload_n (pc := 200) O d_L_law_200 0 rfl ?_
          refine r_iload (pc := 201) O d_L_law_201 4 rfl ?_
          refine r_iconst (pc := 203) O d_L_law_203 ic_3 ?_
          refine r_iadd (pc := 204) O d_L_law_204 ?_
          refine r_sld (x := (xs (ix (qv0 + 3)))) (pc := 205) O T zl_n d_L_law_205 rfl ?_
          refine r_aload_n (pc := 206) O d_L_law_206 0 rfl ?_
          refine r_iload (pc := 207) O d_L_law_207 4 rfl ?_
          refine r_iconst (pc := 209) O d_L_law_209 ic_4 ?_
          refine r_iadd (pc := 210) O d_L_law_210 ?_
          refine r_sld (x := (xs (ix (qv0 + 4)))) (pc := 211) O T zl_n d_L_law_211 rfl ?_
          refine r_callH (pc := 212) O O2 T [.ref 0, .int (xs (ix (qv0 + 1))), .int (xs (ix (qv0 + 2))), .int (xs (ix (qv0 + 3))), .int (xs (ix (qv0 + 4)))] (sLh (h := qv1) zl_c (R_L_exit n (xs (ix (qv0 + 1))) (xs (ix (qv0 + 2))) (xs (ix (qv0 + 3))) (xs (ix (qv0 + 4))) qv1)) ch_212 wm_401 rfl (Nat.le_of_ble_eq_true rfl) d_L_law_212 rfl (fun v212 => ?_)
          replace O := O2
          refine r_istore (lv' := [(5, .int v212.1), (0, .ref 84), (1, .ref 0), (2, .ref 42), (3, .ref 41), (4, .int qv0)]) (pc := 215) O d_L_law_215 (by decide) rfl ?_
          refine r_aload_n (pc := 217) O d_L_law_217 3 rfl ?_
          refine r_aload_n (pc := 218) O d_L_law_218 1 rfl ?_
          refine r_iload (pc := 219) O d_L_law_219 5 rfl ?_
          refine r_iconst (pc := 221) O d_L_law_221 ic_1 ?_
          refine r_iadd (pc := 222) O d_L_law_222 ?_
          refine r_sld (x := (xs (ix (qv0 + 1)))) (pc := 223) O T zl_n d_L_law_223 rfl ?_
          refine r_aload_n (pc := 224) O d_L_law_224 1 rfl ?_
          refine r_iload (pc := 225) O d_L_law_225 5 rfl ?_
          refine r_iconst (pc := 227) O d_L_law_227 ic_2 ?_
          refine r_iadd (pc := 228) O d_L_law_228 ?_
          refine r_sld (x := (xs (ix (qv0 + 2)))) (pc := 229) O T zl_n d_L_law_229 rfl ?_
          refine r_aload_n (pc := 230) O d_L_law_230 1 rfl ?_
          refine r_iload (pc := 231) O d_L_law_231 5 rfl ?_
          refine r_iconst (pc := 233) O d_L_law_233 ic_3 ?_
          refine r_iadd (pc := 234) O d_L_law_234 ?_
          refine r_sld (x := (xs (ix (qv0 + 3)))) (pc := 235) O T zl_n d_L_law_235 rfl ?_
          refine r_aload_n (pc := 236) O d_L_law_236 1 rfl ?_
          refine r_iload (pc := 237) O d_L_law_237 5 rfl ?_
          refine r_iconst (pc := 239) O d_L_law_239 ic_4 ?_
          refine r_iadd (pc := 240) O d_L_law_240 ?_
          refine r_sld (x := (xs (ix (qv0 + 4)))) (pc := 241) O T zl_n d_L_law_241 rfl ?_
          refine r_callVv (pc := 242) O [.int (xs (ix (qv0 + 1))), .int (xs (ix (qv0 + 2))), .int (xs (ix (qv0 + 3))), .int (xs (ix (qv0 + 4)))] zl_ro zl_rc (sLv' (h := v212.2) zl_m (R_M_exit n (xs (ix (qv0 + 1))) (xs (ix (qv0 + 2))) (xs (ix (qv0 + 3))) (xs (ix (qv0 + 4))) (sbH 42 v212.2))) cw_L_law_242 wm_1116 wm_1117 rfl (Nat.le_of_ble_eq_true rfl) d_L_law_242 rfl (fun v242 => ?_)
          refine r_aload_n (pc := 245) O d_L_law_245 3 rfl ?_
          refine r_callVip (pc := 246) O [] zl_ro zl_rc (sLip (h := v242) zl_m (R_M_thrown n (sbH 42 v242))) cw_L_law_246 wm_1104 wm_1105 rfl (Nat.le_of_ble_eq_true rfl) d_L_law_246 rfl (fun v246 => ?_)
          refine r_iload (pc := 249) O d_L_law_249 0 rfl ?_
          refine r_icmp_eq (tgt := 256) (pc := 251) O d_L_law_251 (by decide) (fun q251 => ?_) (fun q251 => ?_)
          · refine r_goto (pc := 256) O d_L_law_256 (tgt := 1321) (by decide) ?_
            refine r_iinc (lv' := [(4, .int (qv0 + 5)), (5, .int v212.1), (0, .ref 84), (1, .ref 0), (2, .ref 42), (3, .ref 41)]) (pc := 1321) O d_L_law_1321 5 rfl (congrArg (HAdd.hAdd _) ic_5) (by decide) rfl ?_
            refine r_goto (pc := 1324) O d_L_law_1324 (tgt := 23) (by decide) ?_
            exact r_lv [2, 3, 4, 5, 0] rfl (hrec23 ((qv0 + 5), v242))
          · refine r_iconst (pc := 254) O d_L_law_254 ic_0 ?_
            exact r_zret (pc := 255) O rfl d_L_law_255 nb_0
        · refine r_ite (fun q39_3 => ?_) (fun q39_3 => ?_)
          · refine r_tin (tgt := 259) (pc := 39) O d_L_law_39 (by rw [q39_3] <;> decide) (by rw [q39_3] <;> decide) (by rw [q39_3] <;> rfl) (by decide) ?_
            refine r_aload_n (pc := 259) O d_L_law_259 1 rfl ?_
            refine r_aload_n (pc := 260) O d_L_law_260 0 rfl ?_
            refine r_iload (pc := 261) O d_L_law_261 4 rfl ?_
            refine r_iconst (pc := 263) O d_L_law_263 ic_1 ?_
            refine r_iadd (pc := 264) O d_L_law_264 ?_
            refine r_sld (x := (xs (ix (qv0 + 1)))) (pc := 265) O T zl_n d_L_law_265 rfl ?_
            refine r_aload_n (pc := 266) O d_L_law_266 0 rfl ?_
            refine r_iload (pc := 267) O d_L_law_267 4 rfl ?_
            refine r_iconst (pc := 269) O d_L_law_269 ic_2 ?_
            refine r_iadd (pc := 270) O d_L_law_270 ?_
            refine r_sld (x := (xs (ix (qv0 + 2)))) (pc := 271) O T zl_n d_L_law_271 rfl ?_
            refine r_aload_n (pc := 272) O d_L_law_272 3 rfl ?_
            refine r_callH (pc := 273) O O2 T [.ref 0, .int (xs (ix (qv0 + 1))), .int (xs (ix (qv0 + 2))), .ref 41] (sLh (h := qv1) zl_c (R_L_thing n (xs (ix (qv0 + 1))) (xs (ix (qv0 + 2))) qv1)) ch_273 wm_456 rfl (Nat.le_of_ble_eq_true rfl) d_L_law_273 rfl (fun v273 => ?_)
            replace O := O2
            refine r_istore (lv' := [(5, .int v273.1), (0, .ref 84), (1, .ref 0), (2, .ref 42), (3, .ref 41), (4, .int qv0)]) (pc := 276) O d_L_law_276 (by decide) rfl ?_
            refine r_aload_n (pc := 278) O d_L_law_278 3 rfl ?_
            refine r_aload_n (pc := 279) O d_L_law_279 1 rfl ?_
            refine r_iload (pc := 280) O d_L_law_280 5 rfl ?_
            refine r_iconst (pc := 282) O d_L_law_282 ic_1 ?_
            refine r_iadd (pc := 283) O d_L_law_283 ?_
            refine r_sld (x := (xs (ix (qv0 + 1)))) (pc := 284) O T zl_n d_L_law_284 rfl ?_
            refine r_aload_n (pc := 285) O d_L_law_285 1 rfl ?_
            refine r_iload (pc := 286) O d_L_law_286 5 rfl ?_
            refine r_iconst (pc := 288) O d_L_law_288 ic_2 ?_
            refine r_iadd (pc := 289) O d_L_law_289 ?_
            refine r_sld (x := (xs (ix (qv0 + 2)))) (pc := 290) O T zl_n d_L_law_290 rfl ?_
            refine r_callVi (pc := 291) O [.int (xs (ix (qv0 + 1))), .int (xs (ix (qv0 + 2)))] zl_ro zl_rc (sLi (h := v273.2) zl_m (R_M_thing n (xs (ix (qv0 + 1))) (xs (ix (qv0 + 2))) (sbH 42 v273.2))) cw_L_law_291 wm_1128 wm_1129 rfl (Nat.le_of_ble_eq_true rfl) d_L_law_291 rfl (fun v291 => ?_)
            refine r_istore (lv' := [(6, .int v291.1), (5, .int v273.1), (0, .ref 84), (1, .ref 0), (2, .ref 42), (3, .ref 41), (4, .int qv0)]) (pc := 294) O d_L_law_294 (by decide) rfl ?_
            refine r_aload_n (pc := 296) O d_L_law_296 4 rfl ?_
            refine r_callVip (pc := 297) O [] zl_ro zl_rc (sLip (h := v291.2) zl_m (R_M_thrown n (sbH 42 v291.2))) cw_L_law_297 wm_1104 wm_1105 rfl (Nat.le_of_ble_eq_true rfl) d_L_law_297 rfl (fun v297 => ?_)
            refine r_iload (pc := 300) O d_L_law_300 1 rfl ?_
            refine r_icmp_eq (tgt := 307) (pc := 302) O d_L_law_302 (by decide) (fun q302 => ?_) (fun q302 => ?_)
            · refine r_iload (pc := 307) O d_L_law_307 1 rfl ?_
              refine r_if_ne (tgt := 324) (pc := 309) O d_L_law_309 (by decide) (fun q309 => ?_) (fun q309 => ?_)
              · refine r_goto (pc := 324) O d_L_law_324 (tgt := 1321) (by decide) ?_
                refine r_iinc (lv' := [(4, .int (qv0 + 5)), (6, .int v291.1), (5, .int v273.1), (0, .ref 84), (1, .ref 0), (2, .ref 42), (3, .ref 41)]) (pc := 1321) O d_L_law_1321 6 rfl (congrArg (HAdd.hAdd _) ic_5) (by decide) rfl ?_
                refine r_goto (pc := 1324) O d_L_law_1324 (tgt := 23) (by decide) ?_
                exact r_lv [3, 4, 5, 6, 0] rfl (hrec23 ((qv0 + 5), v291.2))
              · refine r_aload_n (pc := 312) O d_L_law_312 5 rfl ?_
                refine r_iconst (pc := 313) O d_L_law_313 ic_0 ?_
                refine r_lald_c (x := (v291.2.2 41 (ix 0))) (pc := 314) O zl_o (sIn_iff.mp (by decide)) d_L_law_314 rfl ?_
                refine r_iload (pc := 315) O d_L_law_315 0 rfl ?_
                refine r_i2l (pc := 317) O d_L_law_317 ?_
                refine r_lcmp (pc := 318) O d_L_law_318 ?_
                refine r_if_eq (tgt := 324) (pc := 319) O d_L_law_319 (by decide) (fun q319 => ?_) (fun q319 => ?_)
                · refine r_goto (pc := 324) O d_L_law_324 (tgt := 1321) (by decide) ?_
                  refine r_iinc (lv' := [(4, .int (qv0 + 5)), (6, .int v291.1), (5, .int v273.1), (0, .ref 84), (1, .ref 0), (2, .ref 42), (3, .ref 41)]) (pc := 1321) O d_L_law_1321 6 rfl (congrArg (HAdd.hAdd _) ic_5) (by decide) rfl ?_
                  refine r_goto (pc := 1324) O d_L_law_1324 (tgt := 23) (by decide) ?_
                  exact r_lv [3, 4, 5, 6, 0] rfl (hrec23 ((qv0 + 5), v291.2))
                · refine r_iconst (pc := 322) O d_L_law_322 ic_0 ?_
                  exact r_zret (pc := 323) O rfl d_L_law_323 nb_0
            · refine r_iconst (pc := 305) O d_L_law_305 ic_0 ?_
              exact r_zret (pc := 306) O rfl d_L_law_306 nb_0
          · refine r_ite (fun q39_4 => ?_) (fun q39_4 => ?_)
            · refine r_tin (tgt := 327) (pc := 39) O d_L_law_39 (by rw [q39_4] <;> decide) (by rw [q39_4] <;> decide) (by rw [q39_4] <;> rfl) (by decide) ?_
              refine r_aload_n (pc := 327) O d_L_law_327 1 rfl ?_
              refine r_aload_n (pc := 328) O d_L_law_328 0 rfl ?_
              refine r_iload (pc := 329) O d_L_law_329 4 rfl ?_
              refine r_iconst (pc := 331) O d_L_law_331 ic_1 ?_
              refine r_iadd (pc := 332) O d_L_law_332 ?_
              refine r_sld (x := (xs (ix (qv0 + 1)))) (pc := 333) O T zl_n d_L_law_333 rfl ?_
              refine r_aload_n (pc := 334) O d_L_law_334 0 rfl ?_
              refine r_iload (pc := 335) O d_L_law_335 4 rfl ?_
              refine r_iconst (pc := 337) O d_L_law_337 ic_2 ?_
              refine r_iadd (pc := 338) O d_L_law_338 ?_
              refine r_sld (x := (xs (ix (qv0 + 2)))) (pc := 339) O T zl_n d_L_law_339 rfl ?_
              refine r_aload_n (pc := 340) O d_L_law_340 3 rfl ?_
              refine r_callH (pc := 341) O O2 T [.ref 0, .int (xs (ix (qv0 + 1))), .int (xs (ix (qv0 + 2))), .ref 41] (sLh (h := qv1) zl_c (R_L_number n (xs (ix (qv0 + 1))) (xs (ix (qv0 + 2))) qv1)) ch_341 wm_475 rfl (Nat.le_of_ble_eq_true rfl) d_L_law_341 rfl (fun v341 => ?_)
              replace O := O2
              refine r_istore (lv' := [(5, .int v341.1), (0, .ref 84), (1, .ref 0), (2, .ref 42), (3, .ref 41), (4, .int qv0)]) (pc := 344) O d_L_law_344 (by decide) rfl ?_
              refine r_aload_n (pc := 346) O d_L_law_346 3 rfl ?_
              refine r_aload_n (pc := 347) O d_L_law_347 1 rfl ?_
              refine r_iload (pc := 348) O d_L_law_348 5 rfl ?_
              refine r_iconst (pc := 350) O d_L_law_350 ic_1 ?_
              refine r_iadd (pc := 351) O d_L_law_351 ?_
              refine r_sld (x := (xs (ix (qv0 + 1)))) (pc := 352) O T zl_n d_L_law_352 rfl ?_
              refine r_aload_n (pc := 353) O d_L_law_353 1 rfl ?_
              refine r_iload (pc := 354) O d_L_law_354 5 rfl ?_
              refine r_iconst (pc := 356) O d_L_law_356 ic_2 ?_
              refine r_iadd (pc := 357) O d_L_law_357 ?_
              refine r_sld (x := (xs (ix (qv0 + 2)))) (pc := 358) O T zl_n d_L_law_358 rfl ?_
              refine r_callVi (pc := 359) O [.int (xs (ix (qv0 + 1))), .int (xs (ix (qv0 + 2)))] zl_ro zl_rc (sLi (h := v341.2) zl_m (R_M_number n (xs (ix (qv0 + 1))) (xs (ix (qv0 + 2))) (sbH 42 v341.2))) cw_L_law_359 wm_1136 wm_1137 rfl (Nat.le_of_ble_eq_true rfl) d_L_law_359 rfl (fun v359 => ?_)
              refine r_istore (lv' := [(6, .int v359.1), (5, .int v341.1), (0, .ref 84), (1, .ref 0), (2, .ref 42), (3, .ref 41), (4, .int qv0)]) (pc := 362) O d_L_law_362 (by decide) rfl ?_
              refine r_aload_n (pc := 364) O d_L_law_364 4 rfl ?_
              refine r_callVip (pc := 365) O [] zl_ro zl_rc (sLip (h := v359.2) zl_m (R_M_thrown n (sbH 42 v359.2))) cw_L_law_365 wm_1104 wm_1105 rfl (Nat.le_of_ble_eq_true rfl) d_L_law_365 rfl (fun v365 => ?_)
              refine r_iload (pc := 368) O d_L_law_368 1 rfl ?_
              refine r_icmp_eq (tgt := 375) (pc := 370) O d_L_law_370 (by decide) (fun q370 => ?_) (fun q370 => ?_)
              · refine r_iload (pc := 375) O d_L_law_375 1 rfl ?_
                refine r_if_ne (tgt := 392) (pc := 377) O d_L_law_377 (by decide) (fun q377 => ?_) (fun q377 => ?_)
                · refine r_goto (pc := 392) O d_L_law_392 (tgt := 1321) (by decide) ?_
                  refine r_iinc (lv' := [(4, .int (qv0 + 5)), (6, .int v359.1), (5, .int v341.1), (0, .ref 84), (1, .ref 0), (2, .ref 42), (3, .ref 41)]) (pc := 1321) O d_L_law_1321 6 rfl (congrArg (HAdd.hAdd _) ic_5) (by decide) rfl ?_
                  refine r_goto (pc := 1324) O d_L_law_1324 (tgt := 23) (by decide) ?_
                  exact r_lv [3, 4, 5, 6, 0] rfl (hrec23 ((qv0 + 5), v359.2))
                · refine r_aload_n (pc := 380) O d_L_law_380 5 rfl ?_
                  refine r_iconst (pc := 381) O d_L_law_381 ic_0 ?_
                  refine r_lald_c (x := (v359.2.2 41 (ix 0))) (pc := 382) O zl_o (sIn_iff.mp (by decide)) d_L_law_382 rfl ?_
                  refine r_iload (pc := 383) O d_L_law_383 0 rfl ?_
                  refine r_i2l (pc := 385) O d_L_law_385 ?_
                  refine r_lcmp (pc := 386) O d_L_law_386 ?_
                  refine r_if_eq (tgt := 392) (pc := 387) O d_L_law_387 (by decide) (fun q387 => ?_) (fun q387 => ?_)
                  · refine r_goto (pc := 392) O d_L_law_392 (tgt := 1321) (by decide) ?_
                    refine r_iinc (lv' := [(4, .int (qv0 + 5)), (6, .int v359.1), (5, .int v341.1), (0, .ref 84), (1, .ref 0), (2, .ref 42), (3, .ref 41)]) (pc := 1321) O d_L_law_1321 6 rfl (congrArg (HAdd.hAdd _) ic_5) (by decide) rfl ?_
                    refine r_goto (pc := 1324) O d_L_law_1324 (tgt := 23) (by decide) ?_
                    exact r_lv [3, 4, 5, 6, 0] rfl (hrec23 ((qv0 + 5), v359.2))
                  · refine r_iconst (pc := 390) O d_L_law_390 ic_0 ?_
                    exact r_zret (pc := 391) O rfl d_L_law_391 nb_0
              · refine r_iconst (pc := 373) O d_L_law_373 ic_0 ?_
                exact r_zret (pc := 374) O rfl d_L_law_374 nb_0
            · refine r_ite (fun q39_5 => ?_) (fun q39_5 => ?_)
              · refine r_tin (tgt := 395) (pc := 39) O d_L_law_39 (by rw [q39_5] <;> decide) (by rw [q39_5] <;> decide) (by rw [q39_5] <;> rfl) (by decide) ?_
                refine r_aload_n (pc := 395) O d_L_law_395 1 rfl ?_
                refine r_aload_n (pc := 396) O d_L_law_396 0 rfl ?_
                refine r_iload (pc := 397) O d_L_law_397 4 rfl ?_
                refine r_iconst (pc := 399) O d_L_law_399 ic_1 ?_
                refine r_iadd (pc := 400) O d_L_law_400 ?_
                refine r_sld (x := (xs (ix (qv0 + 1)))) (pc := 401) O T zl_n d_L_law_401 rfl ?_
                refine r_if_eq (tgt := 409) (pc := 402) O d_L_law_402 (by decide) (fun q402 => ?_) (fun q402 => ?_)
                · refine r_iconst (pc := 409) O d_L_law_409 ic_0 ?_
                  refine r_aload_n (pc := 410) O d_L_law_410 3 rfl ?_
                  refine r_callH (pc := 411) O O2 T [.ref 0, .int 0, .ref 41] (sLh (h := qv1) zl_c (R_L_ending n 0 qv1)) ch_411 wm_486 rfl (Nat.le_of_ble_eq_true rfl) d_L_law_411 rfl (fun v411 => ?_)
                  replace O := O2
                  refine r_istore (lv' := [(5, .int v411.1), (0, .ref 84), (1, .ref 0), (2, .ref 42), (3, .ref 41), (4, .int qv0)]) (pc := 414) O d_L_law_414 (by decide) rfl ?_
                  refine r_aload_n (pc := 416) O d_L_law_416 3 rfl ?_
                  refine r_aload_n (pc := 417) O d_L_law_417 1 rfl ?_
                  refine r_iload (pc := 418) O d_L_law_418 5 rfl ?_
                  refine r_iconst (pc := 420) O d_L_law_420 ic_1 ?_
                  refine r_iadd (pc := 421) O d_L_law_421 ?_
                  refine r_sld (x := (xs (ix (qv0 + 1)))) (pc := 422) O T zl_n d_L_law_422 rfl ?_
                  refine r_if_eq_t (tgt := 430) (pc := 423) O d_L_law_423 (by decide) (by rw [q402] <;> decide) ?_
                  refine r_iconst (pc := 430) O d_L_law_430 ic_0 ?_
                  refine r_callVi (pc := 431) O [.int 0] zl_ro zl_rc (sLi (h := v411.2) zl_m (R_M_ending n 0 (sbH 42 v411.2))) cw_L_law_431 wm_1140 wm_1141 rfl (Nat.le_of_ble_eq_true rfl) d_L_law_431 rfl (fun v431 => ?_)
                  refine r_istore (lv' := [(6, .int v431.1), (5, .int v411.1), (0, .ref 84), (1, .ref 0), (2, .ref 42), (3, .ref 41), (4, .int qv0)]) (pc := 434) O d_L_law_434 (by decide) rfl ?_
                  refine r_aload_n (pc := 436) O d_L_law_436 4 rfl ?_
                  refine r_callVip (pc := 437) O [] zl_ro zl_rc (sLip (h := v431.2) zl_m (R_M_thrown n (sbH 42 v431.2))) cw_L_law_437 wm_1104 wm_1105 rfl (Nat.le_of_ble_eq_true rfl) d_L_law_437 rfl (fun v437 => ?_)
                  refine r_iload (pc := 440) O d_L_law_440 1 rfl ?_
                  refine r_icmp_eq (tgt := 447) (pc := 442) O d_L_law_442 (by decide) (fun q442 => ?_) (fun q442 => ?_)
                  · refine r_iload (pc := 447) O d_L_law_447 1 rfl ?_
                    refine r_if_ne (tgt := 464) (pc := 449) O d_L_law_449 (by decide) (fun q449 => ?_) (fun q449 => ?_)
                    · refine r_goto (pc := 464) O d_L_law_464 (tgt := 1321) (by decide) ?_
                      refine r_iinc (lv' := [(4, .int (qv0 + 5)), (6, .int v431.1), (5, .int v411.1), (0, .ref 84), (1, .ref 0), (2, .ref 42), (3, .ref 41)]) (pc := 1321) O d_L_law_1321 6 rfl (congrArg (HAdd.hAdd _) ic_5) (by decide) rfl ?_
                      refine r_goto (pc := 1324) O d_L_law_1324 (tgt := 23) (by decide) ?_
                      exact r_lv [3, 4, 5, 6, 0] rfl (hrec23 ((qv0 + 5), v431.2))
                    · refine r_aload_n (pc := 452) O d_L_law_452 5 rfl ?_
                      refine r_iconst (pc := 453) O d_L_law_453 ic_0 ?_
                      refine r_lald_c (x := (v431.2.2 41 (ix 0))) (pc := 454) O zl_o (sIn_iff.mp (by decide)) d_L_law_454 rfl ?_
                      refine r_iload (pc := 455) O d_L_law_455 0 rfl ?_
                      refine r_i2l (pc := 457) O d_L_law_457 ?_
                      refine r_lcmp (pc := 458) O d_L_law_458 ?_
                      refine r_if_eq (tgt := 464) (pc := 459) O d_L_law_459 (by decide) (fun q459 => ?_) (fun q459 => ?_)
                      · refine r_goto (pc := 464) O d_L_law_464 (tgt := 1321) (by decide) ?_
                        refine r_iinc (lv' := [(4, .int (qv0 + 5)), (6, .int v431.1), (5, .int v411.1), (0, .ref 84), (1, .ref 0), (2, .ref 42), (3, .ref 41)]) (pc := 1321) O d_L_law_1321 6 rfl (congrArg (HAdd.hAdd _) ic_5) (by decide) rfl ?_
                        refine r_goto (pc := 1324) O d_L_law_1324 (tgt := 23) (by decide) ?_
                        exact r_lv [3, 4, 5, 6, 0] rfl (hrec23 ((qv0 + 5), v431.2))
                      · refine r_iconst (pc := 462) O d_L_law_462 ic_0 ?_
                        exact r_zret (pc := 463) O rfl d_L_law_463 nb_0
                  · refine r_iconst (pc := 445) O d_L_law_445 ic_0 ?_
                    exact r_zret (pc := 446) O rfl d_L_law_446 nb_0
                · refine r_iconst (pc := 405) O d_L_law_405 ic_1 ?_
                  refine r_goto (pc := 406) O d_L_law_406 (tgt := 410) (by decide) ?_
                  refine r_aload_n (pc := 410) O d_L_law_410 3 rfl ?_
                  refine r_callH (pc := 411) O O2 T [.ref 0, .int 1, .ref 41] (sLh (h := qv1) zl_c (R_L_ending n 1 qv1)) ch_411 wm_486 rfl (Nat.le_of_ble_eq_true rfl) d_L_law_411 rfl (fun v411 => ?_)
                  replace O := O2
                  refine r_istore (lv' := [(5, .int v411.1), (0, .ref 84), (1, .ref 0), (2, .ref 42), (3, .ref 41), (4, .int qv0)]) (pc := 414) O d_L_law_414 (by decide) rfl ?_
                  refine r_aload_n (pc := 416) O d_L_law_416 3 rfl ?_
                  refine r_aload_n (pc := 417) O d_L_law_417 1 rfl ?_
                  refine r_iload (pc := 418) O d_L_law_418 5 rfl ?_
                  refine r_iconst (pc := 420) O d_L_law_420 ic_1 ?_
                  refine r_iadd (pc := 421) O d_L_law_421 ?_
                  refine r_sld (x := (xs (ix (qv0 + 1)))) (pc := 422) O T zl_n d_L_law_422 rfl ?_
                  refine r_if_eq (tgt := 430) (pc := 423) O d_L_law_423 (by decide) (fun q423 => ?_) (fun q423 => ?_)
                  · refine r_iconst (pc := 430) O d_L_law_430 ic_0 ?_
                    refine r_callVi (pc := 431) O [.int 0] zl_ro zl_rc (sLi (h := v411.2) zl_m (R_M_ending n 0 (sbH 42 v411.2))) cw_L_law_431 wm_1140 wm_1141 rfl (Nat.le_of_ble_eq_true rfl) d_L_law_431 rfl (fun v431 => ?_)
                    refine r_istore (lv' := [(6, .int v431.1), (5, .int v411.1), (0, .ref 84), (1, .ref 0), (2, .ref 42), (3, .ref 41), (4, .int qv0)]) (pc := 434) O d_L_law_434 (by decide) rfl ?_
                    refine r_aload_n (pc := 436) O d_L_law_436 4 rfl ?_
                    refine r_callVip (pc := 437) O [] zl_ro zl_rc (sLip (h := v431.2) zl_m (R_M_thrown n (sbH 42 v431.2))) cw_L_law_437 wm_1104 wm_1105 rfl (Nat.le_of_ble_eq_true rfl) d_L_law_437 rfl (fun v437 => ?_)
                    refine r_iload (pc := 440) O d_L_law_440 1 rfl ?_
                    refine r_icmp_eq (tgt := 447) (pc := 442) O d_L_law_442 (by decide) (fun q442 => ?_) (fun q442 => ?_)
                    · refine r_iload (pc := 447) O d_L_law_447 1 rfl ?_
                      refine r_if_ne (tgt := 464) (pc := 449) O d_L_law_449 (by decide) (fun q449 => ?_) (fun q449 => ?_)
                      · refine r_goto (pc := 464) O d_L_law_464 (tgt := 1321) (by decide) ?_
                        refine r_iinc (lv' := [(4, .int (qv0 + 5)), (6, .int v431.1), (5, .int v411.1), (0, .ref 84), (1, .ref 0), (2, .ref 42), (3, .ref 41)]) (pc := 1321) O d_L_law_1321 6 rfl (congrArg (HAdd.hAdd _) ic_5) (by decide) rfl ?_
                        refine r_goto (pc := 1324) O d_L_law_1324 (tgt := 23) (by decide) ?_
                        exact r_lv [3, 4, 5, 6, 0] rfl (hrec23 ((qv0 + 5), v431.2))
                      · refine r_aload_n (pc := 452) O d_L_law_452 5 rfl ?_
                        refine r_iconst (pc := 453) O d_L_law_453 ic_0 ?_
                        refine r_lald_c (x := (v431.2.2 41 (ix 0))) (pc := 454) O zl_o (sIn_iff.mp (by decide)) d_L_law_454 rfl ?_
                        refine r_iload (pc := 455) O d_L_law_455 0 rfl ?_
                        refine r_i2l (pc := 457) O d_L_law_457 ?_
                        refine r_lcmp (pc := 458) O d_L_law_458 ?_
                        refine r_if_eq (tgt := 464) (pc := 459) O d_L_law_459 (by decide) (fun q459 => ?_) (fun q459 => ?_)
                        · refine r_goto (pc := 464) O d_L_law_464 (tgt := 1321) (by decide) ?_
                          refine r_iinc (lv' := [(4, .int (qv0 + 5)), (6, .int v431.1), (5, .int v411.1), (0, .ref 84), (1, .ref 0), (2, .ref 42), (3, .ref 41)]) (pc := 1321) O d_L_law_1321 6 rfl (congrArg (HAdd.hAdd _) ic_5) (by decide) rfl ?_
                          refine r_goto (pc := 1324) O d_L_law_1324 (tgt := 23) (by decide) ?_
                          exact r_lv [3, 4, 5, 6, 0] rfl (hrec23 ((qv0 + 5), v431.2))
                        · refine r_iconst (pc := 462) O d_L_law_462 ic_0 ?_
                          exact r_zret (pc := 463) O rfl d_L_law_463 nb_0
                    · refine r_iconst (pc := 445) O d_L_law_445 ic_0 ?_
                      exact r_zret (pc := 446) O rfl d_L_law_446 nb_0
                  · refine r_iconst (pc := 426) O d_L_law_426 ic_1 ?_
                    refine r_goto (pc := 427) O d_L_law_427 (tgt := 431) (by decide) ?_
                    refine r_callVi (pc := 431) O [.int 1] zl_ro zl_rc (sLi (h := v411.2) zl_m (R_M_ending n 1 (sbH 42 v411.2))) cw_L_law_431 wm_1140 wm_1141 rfl (Nat.le_of_ble_eq_true rfl) d_L_law_431 rfl (fun v431 => ?_)
                    refine r_istore (lv' := [(6, .int v431.1), (5, .int v411.1), (0, .ref 84), (1, .ref 0), (2, .ref 42), (3, .ref 41), (4, .int qv0)]) (pc := 434) O d_L_law_434 (by decide) rfl ?_
                    refine r_aload_n (pc := 436) O d_L_law_436 4 rfl ?_
                    refine r_callVip (pc := 437) O [] zl_ro zl_rc (sLip (h := v431.2) zl_m (R_M_thrown n (sbH 42 v431.2))) cw_L_law_437 wm_1104 wm_1105 rfl (Nat.le_of_ble_eq_true rfl) d_L_law_437 rfl (fun v437 => ?_)
                    refine r_iload (pc := 440) O d_L_law_440 1 rfl ?_
                    refine r_icmp_eq (tgt := 447) (pc := 442) O d_L_law_442 (by decide) (fun q442 => ?_) (fun q442 => ?_)
                    · refine r_iload (pc := 447) O d_L_law_447 1 rfl ?_
                      refine r_if_ne (tgt := 464) (pc := 449) O d_L_law_449 (by decide) (fun q449 => ?_) (fun q449 => ?_)
                      · refine r_goto (pc := 464) O d_L_law_464 (tgt := 1321) (by decide) ?_
                        refine r_iinc (lv' := [(4, .int (qv0 + 5)), (6, .int v431.1), (5, .int v411.1), (0, .ref 84), (1, .ref 0), (2, .ref 42), (3, .ref 41)]) (pc := 1321) O d_L_law_1321 6 rfl (congrArg (HAdd.hAdd _) ic_5) (by decide) rfl ?_
                        refine r_goto (pc := 1324) O d_L_law_1324 (tgt := 23) (by decide) ?_
                        exact r_lv [3, 4, 5, 6, 0] rfl (hrec23 ((qv0 + 5), v431.2))
                      · refine r_aload_n (pc := 452) O d_L_law_452 5 rfl ?_
                        refine r_iconst (pc := 453) O d_L_law_453 ic_0 ?_
                        refine r_lald_c (x := (v431.2.2 41 (ix 0))) (pc := 454) O zl_o (sIn_iff.mp (by decide)) d_L_law_454 rfl ?_
                        refine r_iload (pc := 455) O d_L_law_455 0 rfl ?_
                        refine r_i2l (pc := 457) O d_L_law_457 ?_
                        refine r_lcmp (pc := 458) O d_L_law_458 ?_
                        refine r_if_eq (tgt := 464) (pc := 459) O d_L_law_459 (by decide) (fun q459 => ?_) (fun q459 => ?_)
                        · refine r_goto (pc := 464) O d_L_law_464 (tgt := 1321) (by decide) ?_
                          refine r_iinc (lv' := [(4, .int (qv0 + 5)), (6, .int v431.1), (5, .int v411.1), (0, .ref 84), (1, .ref 0), (2, .ref 42), (3, .ref 41)]) (pc := 1321) O d_L_law_1321 6 rfl (congrArg (HAdd.hAdd _) ic_5) (by decide) rfl ?_
                          refine r_goto (pc := 1324) O d_L_law_1324 (tgt := 23) (by decide) ?_
                          exact r_lv [3, 4, 5, 6, 0] rfl (hrec23 ((qv0 + 5), v431.2))
                        · refine r_iconst (pc := 462) O d_L_law_462 ic_0 ?_
                          exact r_zret (pc := 463) O rfl d_L_law_463 nb_0
                    · refine r_iconst (pc := 445) O d_L_law_445 ic_0 ?_
                      exact r_zret (pc := 446) O rfl d_L_law_446 nb_0
              · refine r_ite (fun q39_6 => ?_) (fun q39_6 => ?_)
                · refine r_tin (tgt := 467) (pc := 39) O d_L_law_39 (by rw [q39_6] <;> decide) (by rw [q39_6] <;> decide) (by rw [q39_6] <;> rfl) (by decide) ?_
                  refine r_aload_n (pc := 467) O d_L_law_467 1 rfl ?_
                  refine r_aload_n (pc := 468) O d_L_law_468 0 rfl ?_
                  refine r_iload (pc := 469) O d_L_law_469 4 rfl ?_
                  refine r_iconst (pc := 471) O d_L_law_471 ic_1 ?_
                  refine r_iadd (pc := 472) O d_L_law_472 ?_
                  refine r_sld (x := (xs (ix (qv0 + 1)))) (pc := 473) O T zl_n d_L_law_473 rfl ?_
                  refine r_aload_n (pc := 474) O d_L_law_474 0 rfl ?_
                  refine r_iload (pc := 475) O d_L_law_475 4 rfl ?_
                  refine r_iconst (pc := 477) O d_L_law_477 ic_2 ?_
                  refine r_iadd (pc := 478) O d_L_law_478 ?_
                  refine r_sld (x := (xs (ix (qv0 + 2)))) (pc := 479) O T zl_n d_L_law_479 rfl ?_
                  refine r_aload_n (pc := 480) O d_L_law_480 0 rfl ?_
                  refine r_iload (pc := 481) O d_L_law_481 4 rfl ?_
                  refine r_iconst (pc := 483) O d_L_law_483 ic_3 ?_
                  refine r_iadd (pc := 484) O d_L_law_484 ?_
                  refine r_sld (x := (xs (ix (qv0 + 3)))) (pc := 485) O T zl_n d_L_law_485 rfl ?_
                  refine r_aload_n (pc := 486) O d_L_law_486 0 rfl ?_
                  refine r_iload (pc := 487) O d_L_law_487 4 rfl ?_
                  refine r_iconst (pc := 489) O d_L_law_489 ic_4 ?_
                  refine r_iadd (pc := 490) O d_L_law_490 ?_
                  refine r_sld (x := (xs (ix (qv0 + 4)))) (pc := 491) O T zl_n d_L_law_491 rfl ?_
                  refine r_aload_n (pc := 492) O d_L_law_492 3 rfl ?_
                  refine r_callH (pc := 493) O O2 T [.ref 0, .int (xs (ix (qv0 + 1))), .int (xs (ix (qv0 + 2))), .int (xs (ix (qv0 + 3))), .int (xs (ix (qv0 + 4))), .ref 41] (sLh (h := qv1) zl_c (R_L_rule n (xs (ix (qv0 + 1))) (xs (ix (qv0 + 2))) (xs (ix (qv0 + 3))) (xs (ix (qv0 + 4))) qv1)) ch_493 wm_497 rfl (Nat.le_of_ble_eq_true rfl) d_L_law_493 rfl (fun v493 => ?_)
                  replace O := O2
                  refine r_istore (lv' := [(5, .int v493.1), (0, .ref 84), (1, .ref 0), (2, .ref 42), (3, .ref 41), (4, .int qv0)]) (pc := 496) O d_L_law_496 (by decide) rfl ?_
                  refine r_aload_n (pc := 498) O d_L_law_498 3 rfl ?_
                  refine r_aload_n (pc := 499) O d_L_law_499 1 rfl ?_
                  refine r_iload (pc := 500) O d_L_law_500 5 rfl ?_
                  refine r_iconst (pc := 502) O d_L_law_502 ic_1 ?_
                  refine r_iadd (pc := 503) O d_L_law_503 ?_
                  refine r_sld (x := (xs (ix (qv0 + 1)))) (pc := 504) O T zl_n d_L_law_504 rfl ?_
                  refine r_aload_n (pc := 505) O d_L_law_505 1 rfl ?_
                  refine r_iload (pc := 506) O d_L_law_506 5 rfl ?_
                  refine r_iconst (pc := 508) O d_L_law_508 ic_2 ?_
                  refine r_iadd (pc := 509) O d_L_law_509 ?_
                  refine r_sld (x := (xs (ix (qv0 + 2)))) (pc := 510) O T zl_n d_L_law_510 rfl ?_
                  refine r_aload_n (pc := 511) O d_L_law_511 1 rfl ?_
                  refine r_iload (pc := 512) O d_L_law_512 5 rfl ?_
                  refine r_iconst (pc := 514) O d_L_law_514 ic_3 ?_
                  refine r_iadd (pc := 515) O d_L_law_515 ?_
                  refine r_sld (x := (xs (ix (qv0 + 3)))) (pc := 516) O T zl_n d_L_law_516 rfl ?_
                  refine r_aload_n (pc := 517) O d_L_law_517 1 rfl ?_
                  refine r_iload (pc := 518) O d_L_law_518 5 rfl ?_
                  refine r_iconst (pc := 520) O d_L_law_520 ic_4 ?_
                  refine r_iadd (pc := 521) O d_L_law_521 ?_
                  refine r_sld (x := (xs (ix (qv0 + 4)))) (pc := 522) O T zl_n d_L_law_522 rfl ?_
                  refine r_callVi (pc := 523) O [.int (xs (ix (qv0 + 1))), .int (xs (ix (qv0 + 2))), .int (xs (ix (qv0 + 3))), .int (xs (ix (qv0 + 4)))] zl_ro zl_rc (sLi (h := v493.2) zl_m (R_M_rule n (xs (ix (qv0 + 1))) (xs (ix (qv0 + 2))) (xs (ix (qv0 + 3))) (xs (ix (qv0 + 4))) (sbH 42 v493.2))) cw_L_law_523 wm_1144 wm_1145 rfl (Nat.le_of_ble_eq_true rfl) d_L_law_523 rfl (fun v523 => ?_)
                  refine r_istore (lv' := [(6, .int v523.1), (5, .int v493.1), (0, .ref 84), (1, .ref 0), (2, .ref 42), (3, .ref 41), (4, .int qv0)]) (pc := 526) O d_L_law_526 (by decide) rfl ?_
                  refine r_aload_n (pc := 528) O d_L_law_528 4 rfl ?_
                  refine r_callVip (pc := 529) O [] zl_ro zl_rc (sLip (h := v523.2) zl_m (R_M_thrown n (sbH 42 v523.2))) cw_L_law_529 wm_1104 wm_1105 rfl (Nat.le_of_ble_eq_true rfl) d_L_law_529 rfl (fun v529 => ?_)
                  refine r_iload (pc := 532) O d_L_law_532 1 rfl ?_
                  refine r_icmp_eq (tgt := 539) (pc := 534) O d_L_law_534 (by decide) (fun q534 => ?_) (fun q534 => ?_)
                  · refine r_iload (pc := 539) O d_L_law_539 1 rfl ?_
                    refine r_if_ne (tgt := 556) (pc := 541) O d_L_law_541 (by decide) (fun q541 => ?_) (fun q541 => ?_)
                    · refine r_goto (pc := 556) O d_L_law_556 (tgt := 1321) (by decide) ?_
                      refine r_iinc (lv' := [(4, .int (qv0 + 5)), (6, .int v523.1), (5, .int v493.1), (0, .ref 84), (1, .ref 0), (2, .ref 42), (3, .ref 41)]) (pc := 1321) O d_L_law_1321 6 rfl (congrArg (HAdd.hAdd _) ic_5) (by decide) rfl ?_
                      refine r_goto (pc := 1324) O d_L_law_1324 (tgt := 23) (by decide) ?_
                      exact r_lv [3, 4, 5, 6, 0] rfl (hrec23 ((qv0 + 5), v523.2))
                    · refine r_aload_n (pc := 544) O d_L_law_544 5 rfl ?_
                      refine r_iconst (pc := 545) O d_L_law_545 ic_0 ?_
                      refine r_lald_c (x := (v523.2.2 41 (ix 0))) (pc := 546) O zl_o (sIn_iff.mp (by decide)) d_L_law_546 rfl ?_
                      refine r_iload (pc := 547) O d_L_law_547 0 rfl ?_
                      refine r_i2l (pc := 549) O d_L_law_549 ?_
                      refine r_lcmp (pc := 550) O d_L_law_550 ?_
                      refine r_if_eq (tgt := 556) (pc := 551) O d_L_law_551 (by decide) (fun q551 => ?_) (fun q551 => ?_)
                      · refine r_goto (pc := 556) O d_L_law_556 (tgt := 1321) (by decide) ?_
                        refine r_iinc (lv' := [(4, .int (qv0 + 5)), (6, .int v523.1), (5, .int v493.1), (0, .ref 84), (1, .ref 0), (2, .ref 42), (3, .ref 41)]) (pc := 1321) O d_L_law_1321 6 rfl (congrArg (HAdd.hAdd _) ic_5) (by decide) rfl ?_
                        refine r_goto (pc := 1324) O d_L_law_1324 (tgt := 23) (by decide) ?_
                        exact r_lv [3, 4, 5, 6, 0] rfl (hrec23 ((qv0 + 5), v523.2))
                      · refine r_iconst (pc := 554) O d_L_law_554 ic_0 ?_
                        exact r_zret (pc := 555) O rfl d_L_law_555 nb_0
                  · refine r_iconst (pc := 537) O d_L_law_537 ic_0 ?_
                    exact r_zret (pc := 538) O rfl d_L_law_538 nb_0
                · refine r_ite (fun q39_7 => ?_) (fun q39_7 => ?_)
                  · refine r_tin (tgt := 559) (pc := 39) O d_L_law_39 (by rw [q39_7] <;> decide) (by rw [q39_7] <;> decide) (by rw [q39_7] <;> rfl) (by decide) ?_
                    refine r_aload_n (pc := 559) O d_L_law_559 1 rfl ?_
                    refine r_aload_n (pc := 560) O d_L_law_560 0 rfl ?_
                    refine r_iload (pc := 561) O d_L_law_561 4 rfl ?_
                    refine r_iconst (pc := 563) O d_L_law_563 ic_1 ?_
                    refine r_iadd (pc := 564) O d_L_law_564 ?_
                    refine r_sld (x := (xs (ix (qv0 + 1)))) (pc := 565) O T zl_n d_L_law_565 rfl ?_
                    refine r_aload_n (pc := 566) O d_L_law_566 0 rfl ?_
                    refine r_iload (pc := 567) O d_L_law_567 4 rfl ?_
                    refine r_iconst (pc := 569) O d_L_law_569 ic_2 ?_
                    refine r_iadd (pc := 570) O d_L_law_570 ?_
                    refine r_sld (x := (xs (ix (qv0 + 2)))) (pc := 571) O T zl_n d_L_law_571 rfl ?_
                    refine r_aload_n (pc := 572) O d_L_law_572 0 rfl ?_
                    refine r_iload (pc := 573) O d_L_law_573 4 rfl ?_
                    refine r_iconst (pc := 575) O d_L_law_575 ic_3 ?_
                    refine r_iadd (pc := 576) O d_L_law_576 ?_
                    refine r_sld (x := (xs (ix (qv0 + 3)))) (pc := 577) O T zl_n d_L_law_577 rfl ?_
                    refine r_aload_n (pc := 578) O d_L_law_578 0 rfl ?_
                    refine r_iload (pc := 579) O d_L_law_579 4 rfl ?_
                    refine r_iconst (pc := 581) O d_L_law_581 ic_4 ?_
                    refine r_iadd (pc := 582) O d_L_law_582 ?_
                    refine r_sld (x := (xs (ix (qv0 + 4)))) (pc := 583) O T zl_n d_L_law_583 rfl ?_
                    refine r_callH (pc := 584) O O2 T [.ref 0, .int (xs (ix (qv0 + 1))), .int (xs (ix (qv0 + 2))), .int (xs (ix (qv0 + 3))), .int (xs (ix (qv0 + 4)))] (sLh (h := qv1) zl_c (R_L_condition n (xs (ix (qv0 + 1))) (xs (ix (qv0 + 2))) (xs (ix (qv0 + 3))) (xs (ix (qv0 + 4))) qv1)) ch_584 wm_508 rfl (Nat.le_of_ble_eq_true rfl) d_L_law_584 rfl (fun v584 => ?_)
                    replace O := O2
                    refine r_istore (lv' := [(5, .int v584.1), (0, .ref 84), (1, .ref 0), (2, .ref 42), (3, .ref 41), (4, .int qv0)]) (pc := 587) O d_L_law_587 (by decide) rfl ?_
                    refine r_aload_n (pc := 589) O d_L_law_589 3 rfl ?_
                    refine r_aload_n (pc := 590) O d_L_law_590 1 rfl ?_
                    refine r_iload (pc := 591) O d_L_law_591 5 rfl ?_
                    refine r_iconst (pc := 593) O d_L_law_593 ic_1 ?_
                    refine r_iadd (pc := 594) O d_L_law_594 ?_
                    refine r_sld (x := (xs (ix (qv0 + 1)))) (pc := 595) O T zl_n d_L_law_595 rfl ?_
                    refine r_aload_n (pc := 596) O d_L_law_596 1 rfl ?_
                    refine r_iload (pc := 597) O d_L_law_597 5 rfl ?_
                    refine r_iconst (pc := 599) O d_L_law_599 ic_2 ?_
                    refine r_iadd (pc := 600) O d_L_law_600 ?_
                    refine r_sld (x := (xs (ix (qv0 + 2)))) (pc := 601) O T zl_n d_L_law_601 rfl ?_
                    refine r_aload_n (pc := 602) O d_L_law_602 1 rfl ?_
                    refine r_iload (pc := 603) O d_L_law_603 5 rfl ?_
                    refine r_iconst (pc := 605) O d_L_law_605 ic_3 ?_
                    refine r_iadd (pc := 606) O d_L_law_606 ?_
                    refine r_sld (x := (xs (ix (qv0 + 3)))) (pc := 607) O T zl_n d_L_law_607 rfl ?_
                    refine r_aload_n (pc := 608) O d_L_law_608 1 rfl ?_
                    refine r_iload (pc := 609) O d_L_law_609 5 rfl ?_
                    refine r_iconst (pc := 611) O d_L_law_611 ic_4 ?_
                    refine r_iadd (pc := 612) O d_L_law_612 ?_
                    refine r_sld (x := (xs (ix (qv0 + 4)))) (pc := 613) O T zl_n d_L_law_613 rfl ?_
                    refine r_callVv (pc := 614) O [.int (xs (ix (qv0 + 1))), .int (xs (ix (qv0 + 2))), .int (xs (ix (qv0 + 3))), .int (xs (ix (qv0 + 4)))] zl_ro zl_rc (sLv' (h := v584.2) zl_m (R_M_condition n (xs (ix (qv0 + 1))) (xs (ix (qv0 + 2))) (xs (ix (qv0 + 3))) (xs (ix (qv0 + 4))) (sbH 42 v584.2))) cw_L_law_614 wm_1148 wm_1149 rfl (Nat.le_of_ble_eq_true rfl) d_L_law_614 rfl (fun v614 => ?_)
                    refine r_aload_n (pc := 617) O d_L_law_617 3 rfl ?_
                    refine r_callVip (pc := 618) O [] zl_ro zl_rc (sLip (h := v614) zl_m (R_M_thrown n (sbH 42 v614))) cw_L_law_618 wm_1104 wm_1105 rfl (Nat.le_of_ble_eq_true rfl) d_L_law_618 rfl (fun v618 => ?_)
                    refine r_iload (pc := 621) O d_L_law_621 0 rfl ?_
                    refine r_icmp_eq (tgt := 628) (pc := 623) O d_L_law_623 (by decide) (fun q623 => ?_) (fun q623 => ?_)
                    · refine r_goto (pc := 628) O d_L_law_628 (tgt := 1321) (by decide) ?_
                      refine r_iinc (lv' := [(4, .int (qv0 + 5)), (5, .int v584.1), (0, .ref 84), (1, .ref 0), (2, .ref 42), (3, .ref 41)]) (pc := 1321) O d_L_law_1321 5 rfl (congrArg (HAdd.hAdd _) ic_5) (by decide) rfl ?_
                      refine r_goto (pc := 1324) O d_L_law_1324 (tgt := 23) (by decide) ?_
                      exact r_lv [2, 3, 4, 5, 0] rfl (hrec23 ((qv0 + 5), v614))
                    · refine r_iconst (pc := 626) O d_L_law_626 ic_0 ?_
                      exact r_zret (pc := 627) O rfl d_L_law_627 nb_0
                  · refine r_ite (fun q39_8 => ?_) (fun q39_8 => ?_)
                    · refine r_tin (tgt := 631) (pc := 39) O d_L_law_39 (by rw [q39_8] <;> decide) (by rw [q39_8] <;> decide) (by rw [q39_8] <;> rfl) (by decide) ?_
                      refine r_aload_n (pc := 631) O d_L_law_631 1 rfl ?_
                      refine r_aload_n (pc := 632) O d_L_law_632 0 rfl ?_
                      refine r_iload (pc := 633) O d_L_law_633 4 rfl ?_
                      refine r_iconst (pc := 635) O d_L_law_635 ic_1 ?_
                      refine r_iadd (pc := 636) O d_L_law_636 ?_
                      refine r_sld (x := (xs (ix (qv0 + 1)))) (pc := 637) O T zl_n d_L_law_637 rfl ?_
                      refine r_aload_n (pc := 638) O d_L_law_638 0 rfl ?_
                      refine r_iload (pc := 639) O d_L_law_639 4 rfl ?_
                      refine r_iconst (pc := 641) O d_L_law_641 ic_2 ?_
                      refine r_iadd (pc := 642) O d_L_law_642 ?_
                      refine r_sld (x := (xs (ix (qv0 + 2)))) (pc := 643) O T zl_n d_L_law_643 rfl ?_
                      refine r_aload_n (pc := 644) O d_L_law_644 0 rfl ?_
                      refine r_iload (pc := 645) O d_L_law_645 4 rfl ?_
                      refine r_iconst (pc := 647) O d_L_law_647 ic_3 ?_
                      refine r_iadd (pc := 648) O d_L_law_648 ?_
                      refine r_sld (x := (xs (ix (qv0 + 3)))) (pc := 649) O T zl_n d_L_law_649 rfl ?_
                      refine r_aload_n (pc := 650) O d_L_law_650 0 rfl ?_
                      refine r_iload (pc := 651) O d_L_law_651 4 rfl ?_
                      refine r_iconst (pc := 653) O d_L_law_653 ic_4 ?_
                      refine r_iadd (pc := 654) O d_L_law_654 ?_
                      refine r_sld (x := (xs (ix (qv0 + 4)))) (pc := 655) O T zl_n d_L_law_655 rfl ?_
                      refine r_callH (pc := 656) O O2 T [.ref 0, .int (xs (ix (qv0 + 1))), .int (xs (ix (qv0 + 2))), .int (xs (ix (qv0 + 3))), .int (xs (ix (qv0 + 4)))] (sLh (h := qv1) zl_c (R_L_effect n (xs (ix (qv0 + 1))) (xs (ix (qv0 + 2))) (xs (ix (qv0 + 3))) (xs (ix (qv0 + 4))) qv1)) ch_656 wm_543 rfl (Nat.le_of_ble_eq_true rfl) d_L_law_656 rfl (fun v656 => ?_)
                      replace O := O2
                      refine r_istore (lv' := [(5, .int v656.1), (0, .ref 84), (1, .ref 0), (2, .ref 42), (3, .ref 41), (4, .int qv0)]) (pc := 659) O d_L_law_659 (by decide) rfl ?_
                      refine r_aload_n (pc := 661) O d_L_law_661 3 rfl ?_
                      refine r_aload_n (pc := 662) O d_L_law_662 1 rfl ?_
                      refine r_iload (pc := 663) O d_L_law_663 5 rfl ?_
                      refine r_iconst (pc := 665) O d_L_law_665 ic_1 ?_
                      refine r_iadd (pc := 666) O d_L_law_666 ?_
                      refine r_sld (x := (xs (ix (qv0 + 1)))) (pc := 667) O T zl_n d_L_law_667 rfl ?_
                      refine r_aload_n (pc := 668) O d_L_law_668 1 rfl ?_
                      refine r_iload (pc := 669) O d_L_law_669 5 rfl ?_
                      refine r_iconst (pc := 671) O d_L_law_671 ic_2 ?_
                      refine r_iadd (pc := 672) O d_L_law_672 ?_
                      refine r_sld (x := (xs (ix (qv0 + 2)))) (pc := 673) O T zl_n d_L_law_673 rfl ?_
                      refine r_aload_n (pc := 674) O d_L_law_674 1 rfl ?_
                      refine r_iload (pc := 675) O d_L_law_675 5 rfl ?_
                      refine r_iconst (pc := 677) O d_L_law_677 ic_3 ?_
                      refine r_iadd (pc := 678) O d_L_law_678 ?_
                      refine r_sld (x := (xs (ix (qv0 + 3)))) (pc := 679) O T zl_n d_L_law_679 rfl ?_
                      refine r_aload_n (pc := 680) O d_L_law_680 1 rfl ?_
                      refine r_iload (pc := 681) O d_L_law_681 5 rfl ?_
                      refine r_iconst (pc := 683) O d_L_law_683 ic_4 ?_
                      refine r_iadd (pc := 684) O d_L_law_684 ?_
                      refine r_sld (x := (xs (ix (qv0 + 4)))) (pc := 685) O T zl_n d_L_law_685 rfl ?_
                      refine r_callVv (pc := 686) O [.int (xs (ix (qv0 + 1))), .int (xs (ix (qv0 + 2))), .int (xs (ix (qv0 + 3))), .int (xs (ix (qv0 + 4)))] zl_ro zl_rc (sLv' (h := v656.2) zl_m (R_M_effect n (xs (ix (qv0 + 1))) (xs (ix (qv0 + 2))) (xs (ix (qv0 + 3))) (xs (ix (qv0 + 4))) (sbH 42 v656.2))) cw_L_law_686 wm_1164 wm_1165 rfl (Nat.le_of_ble_eq_true rfl) d_L_law_686 rfl (fun v686 => ?_)
                      refine r_aload_n (pc := 689) O d_L_law_689 3 rfl ?_
                      refine r_callVip (pc := 690) O [] zl_ro zl_rc (sLip (h := v686) zl_m (R_M_thrown n (sbH 42 v686))) cw_L_law_690 wm_1104 wm_1105 rfl (Nat.le_of_ble_eq_true rfl) d_L_law_690 rfl (fun v690 => ?_)
                      refine r_iload (pc := 693) O d_L_law_693 0 rfl ?_
                      refine r_icmp_eq (tgt := 700) (pc := 695) O d_L_law_695 (by decide) (fun q695 => ?_) (fun q695 => ?_)
                      · refine r_goto (pc := 700) O d_L_law_700 (tgt := 1321) (by decide) ?_
                        refine r_iinc (lv' := [(4, .int (qv0 + 5)), (5, .int v656.1), (0, .ref 84), (1, .ref 0), (2, .ref 42), (3, .ref 41)]) (pc := 1321) O d_L_law_1321 5 rfl (congrArg (HAdd.hAdd _) ic_5) (by decide) rfl ?_
                        refine r_goto (pc := 1324) O d_L_law_1324 (tgt := 23) (by decide) ?_
                        exact r_lv [2, 3, 4, 5, 0] rfl (hrec23 ((qv0 + 5), v686))
                      · refine r_iconst (pc := 698) O d_L_law_698 ic_0 ?_
                        exact r_zret (pc := 699) O rfl d_L_law_699 nb_0
                    · refine r_ite (fun q39_9 => ?_) (fun q39_9 => ?_)
                      · refine r_tin (tgt := 703) (pc := 39) O d_L_law_39 (by rw [q39_9] <;> decide) (by rw [q39_9] <;> decide) (by rw [q39_9] <;> rfl) (by decide) ?_
                        refine r_aload_n (pc := 703) O d_L_law_703 1 rfl ?_
                        refine r_aload_n (pc := 704) O d_L_law_704 0 rfl ?_
                        refine r_iload (pc := 705) O d_L_law_705 4 rfl ?_
                        refine r_iconst (pc := 707) O d_L_law_707 ic_1 ?_
                        refine r_iadd (pc := 708) O d_L_law_708 ?_
                        refine r_sld (x := (xs (ix (qv0 + 1)))) (pc := 709) O T zl_n d_L_law_709 rfl ?_
                        refine r_aload_n (pc := 710) O d_L_law_710 0 rfl ?_
                        refine r_iload (pc := 711) O d_L_law_711 4 rfl ?_
                        refine r_iconst (pc := 713) O d_L_law_713 ic_2 ?_
                        refine r_iadd (pc := 714) O d_L_law_714 ?_
                        refine r_sld (x := (xs (ix (qv0 + 2)))) (pc := 715) O T zl_n d_L_law_715 rfl ?_
                        refine r_aload_n (pc := 716) O d_L_law_716 0 rfl ?_
                        refine r_iload (pc := 717) O d_L_law_717 4 rfl ?_
                        refine r_iconst (pc := 719) O d_L_law_719 ic_3 ?_
                        refine r_iadd (pc := 720) O d_L_law_720 ?_
                        refine r_sld (x := (xs (ix (qv0 + 3)))) (pc := 721) O T zl_n d_L_law_721 rfl ?_
                        refine r_aload_n (pc := 722) O d_L_law_722 0 rfl ?_
                        refine r_iload (pc := 723) O d_L_law_723 4 rfl ?_
                        refine r_iconst (pc := 725) O d_L_law_725 ic_4 ?_
                        refine r_iadd (pc := 726) O d_L_law_726 ?_
                        refine r_sld (x := (xs (ix (qv0 + 4)))) (pc := 727) O T zl_n d_L_law_727 rfl ?_
                        refine r_callH (pc := 728) O O2 T [.ref 0, .int (xs (ix (qv0 + 1))), .int (xs (ix (qv0 + 2))), .int (xs (ix (qv0 + 3))), .int (xs (ix (qv0 + 4)))] (sLh (h := qv1) zl_c (R_L_walker n (xs (ix (qv0 + 1))) (xs (ix (qv0 + 2))) (xs (ix (qv0 + 3))) (xs (ix (qv0 + 4))) qv1)) ch_728 wm_557 rfl (Nat.le_of_ble_eq_true rfl) d_L_law_728 rfl (fun v728 => ?_)
                        replace O := O2
                        refine r_istore (lv' := [(5, .int v728.1), (0, .ref 84), (1, .ref 0), (2, .ref 42), (3, .ref 41), (4, .int qv0)]) (pc := 731) O d_L_law_731 (by decide) rfl ?_
                        refine r_aload_n (pc := 733) O d_L_law_733 3 rfl ?_
                        refine r_aload_n (pc := 734) O d_L_law_734 1 rfl ?_
                        refine r_iload (pc := 735) O d_L_law_735 5 rfl ?_
                        refine r_iconst (pc := 737) O d_L_law_737 ic_1 ?_
                        refine r_iadd (pc := 738) O d_L_law_738 ?_
                        refine r_sld (x := (xs (ix (qv0 + 1)))) (pc := 739) O T zl_n d_L_law_739 rfl ?_
                        refine r_aload_n (pc := 740) O d_L_law_740 1 rfl ?_
                        refine r_iload (pc := 741) O d_L_law_741 5 rfl ?_
                        refine r_iconst (pc := 743) O d_L_law_743 ic_2 ?_
                        refine r_iadd (pc := 744) O d_L_law_744 ?_
                        refine r_sld (x := (xs (ix (qv0 + 2)))) (pc := 745) O T zl_n d_L_law_745 rfl ?_
                        refine r_aload_n (pc := 746) O d_L_law_746 1 rfl ?_
                        refine r_iload (pc := 747) O d_L_law_747 5 rfl ?_
                        refine r_iconst (pc := 749) O d_L_law_749 ic_3 ?_
                        refine r_iadd (pc := 750) O d_L_law_750 ?_
                        refine r_sld (x := (xs (ix (qv0 + 3)))) (pc := 751) O T zl_n d_L_law_751 rfl ?_
                        refine r_aload_n (pc := 752) O d_L_law_752 1 rfl ?_
                        refine r_iload (pc := 753) O d_L_law_753 5 rfl ?_
                        refine r_iconst (pc := 755) O d_L_law_755 ic_4 ?_
                        refine r_iadd (pc := 756) O d_L_law_756 ?_
                        refine r_sld (x := (xs (ix (qv0 + 4)))) (pc := 757) O T zl_n d_L_law_757 rfl ?_
                        refine r_callVv (pc := 758) O [.int (xs (ix (qv0 + 1))), .int (xs (ix (qv0 + 2))), .int (xs (ix (qv0 + 3))), .int (xs (ix (qv0 + 4)))] zl_ro zl_rc (sLv' (h := v728.2) zl_m (R_M_walker n (xs (ix (qv0 + 1))) (xs (ix (qv0 + 2))) (xs (ix (qv0 + 3))) (xs (ix (qv0 + 4))) (sbH 42 v728.2))) cw_L_law_758 wm_1168 wm_1169 rfl (Nat.le_of_ble_eq_true rfl) d_L_law_758 rfl (fun v758 => ?_)
                        refine r_aload_n (pc := 761) O d_L_law_761 3 rfl ?_
                        refine r_callVip (pc := 762) O [] zl_ro zl_rc (sLip (h := v758) zl_m (R_M_thrown n (sbH 42 v758))) cw_L_law_762 wm_1104 wm_1105 rfl (Nat.le_of_ble_eq_true rfl) d_L_law_762 rfl (fun v762 => ?_)
                        refine r_iload (pc := 765) O d_L_law_765 0 rfl ?_
                        refine r_icmp_eq (tgt := 772) (pc := 767) O d_L_law_767 (by decide) (fun q767 => ?_) (fun q767 => ?_)
                        · refine r_goto (pc := 772) O d_L_law_772 (tgt := 1321) (by decide) ?_
                          refine r_iinc (lv' := [(4, .int (qv0 + 5)), (5, .int v728.1), (0, .ref 84), (1, .ref 0), (2, .ref 42), (3, .ref 41)]) (pc := 1321) O d_L_law_1321 5 rfl (congrArg (HAdd.hAdd _) ic_5) (by decide) rfl ?_
                          refine r_goto (pc := 1324) O d_L_law_1324 (tgt := 23) (by decide) ?_
                          exact r_lv [2, 3, 4, 5, 0] rfl (hrec23 ((qv0 + 5), v758))
                        · refine r_iconst (pc := 770) O d_L_law_770 ic_0 ?_
                          exact r_zret (pc := 771) O rfl d_L_law_771 nb_0
                      · refine r_ite (fun q39_10 => ?_) (fun q39_10 => ?_)
                        · refine r_tin (tgt := 775) (pc := 39) O d_L_law_39 (by rw [q39_10] <;> decide) (by rw [q39_10] <;> decide) (by rw [q39_10] <;> rfl) (by decide) ?_
                          refine r_aload_n (pc := 775) O d_L_law_775 1 rfl ?_
                          refine r_aload_n (pc := 776) O d_L_law_776 0 rfl ?_
                          refine r_iload (pc := 777) O d_L_law_777 4 rfl ?_
                          refine r_iconst (pc := 779) O d_L_law_779 ic_1 ?_
                          refine r_iadd (pc := 780) O d_L_law_780 ?_
                          refine r_sld (x := (xs (ix (qv0 + 1)))) (pc := 781) O T zl_n d_L_law_781 rfl ?_
                          refine r_aload_n (pc := 782) O d_L_law_782 0 rfl ?_
                          refine r_iload (pc := 783) O d_L_law_783 4 rfl ?_
                          refine r_iconst (pc := 785) O d_L_law_785 ic_2 ?_
                          refine r_iadd (pc := 786) O d_L_law_786 ?_
                          refine r_sld (x := (xs (ix (qv0 + 2)))) (pc := 787) O T zl_n d_L_law_787 rfl ?_
                          refine r_callH (pc := 788) O O2 T [.ref 0, .int (xs (ix (qv0 + 1))), .int (xs (ix (qv0 + 2)))] (sLh (h := qv1) zl_c (R_L_timer n (xs (ix (qv0 + 1))) (xs (ix (qv0 + 2))) qv1)) ch_788 wm_572 rfl (Nat.le_of_ble_eq_true rfl) d_L_law_788 rfl (fun v788 => ?_)
                          replace O := O2
                          refine r_istore (lv' := [(5, .int v788.1), (0, .ref 84), (1, .ref 0), (2, .ref 42), (3, .ref 41), (4, .int qv0)]) (pc := 791) O d_L_law_791 (by decide) rfl ?_
                          refine r_aload_n (pc := 793) O d_L_law_793 3 rfl ?_
                          refine r_aload_n (pc := 794) O d_L_law_794 1 rfl ?_
                          refine r_iload (pc := 795) O d_L_law_795 5 rfl ?_
                          refine r_iconst (pc := 797) O d_L_law_797 ic_1 ?_
                          refine r_iadd (pc := 798) O d_L_law_798 ?_
                          refine r_sld (x := (xs (ix (qv0 + 1)))) (pc := 799) O T zl_n d_L_law_799 rfl ?_
                          refine r_aload_n (pc := 800) O d_L_law_800 1 rfl ?_
                          refine r_iload (pc := 801) O d_L_law_801 5 rfl ?_
                          refine r_iconst (pc := 803) O d_L_law_803 ic_2 ?_
                          refine r_iadd (pc := 804) O d_L_law_804 ?_
                          refine r_sld (x := (xs (ix (qv0 + 2)))) (pc := 805) O T zl_n d_L_law_805 rfl ?_
                          refine r_callVv (pc := 806) O [.int (xs (ix (qv0 + 1))), .int (xs (ix (qv0 + 2)))] zl_ro zl_rc (sLv' (h := v788.2) zl_m (R_M_timer n (xs (ix (qv0 + 1))) (xs (ix (qv0 + 2))) (sbH 42 v788.2))) cw_L_law_806 wm_1172 wm_1173 rfl (Nat.le_of_ble_eq_true rfl) d_L_law_806 rfl (fun v806 => ?_)
                          refine r_aload_n (pc := 809) O d_L_law_809 3 rfl ?_
                          refine r_callVip (pc := 810) O [] zl_ro zl_rc (sLip (h := v806) zl_m (R_M_thrown n (sbH 42 v806))) cw_L_law_810 wm_1104 wm_1105 rfl (Nat.le_of_ble_eq_true rfl) d_L_law_810 rfl (fun v810 => ?_)
                          refine r_iload (pc := 813) O d_L_law_813 0 rfl ?_
                          refine r_icmp_eq (tgt := 820) (pc := 815) O d_L_law_815 (by decide) (fun q815 => ?_) (fun q815 => ?_)
                          · refine r_goto (pc := 820) O d_L_law_820 (tgt := 1321) (by decide) ?_
                            refine r_iinc (lv' := [(4, .int (qv0 + 5)), (5, .int v788.1), (0, .ref 84), (1, .ref 0), (2, .ref 42), (3, .ref 41)]) (pc := 1321) O d_L_law_1321 5 rfl (congrArg (HAdd.hAdd _) ic_5) (by decide) rfl ?_
                            refine r_goto (pc := 1324) O d_L_law_1324 (tgt := 23) (by decide) ?_
                            exact r_lv [2, 3, 4, 5, 0] rfl (hrec23 ((qv0 + 5), v806))
                          · refine r_iconst (pc := 818) O d_L_law_818 ic_0 ?_
                            exact r_zret (pc := 819) O rfl d_L_law_819 nb_0
                        · refine r_ite (fun q39_11 => ?_) (fun q39_11 => ?_)
                          · refine r_tin (tgt := 823) (pc := 39) O d_L_law_39 (by rw [q39_11] <;> decide) (by rw [q39_11] <;> decide) (by rw [q39_11] <;> rfl) (by decide) ?_
                            refine r_aload_n (pc := 823) O d_L_law_823 1 rfl ?_
                            refine r_callH (pc := 824) O O2 T [.ref 0] (sLh (h := qv1) zl_c (R_L_begin n qv1)) ch_824 wm_583 rfl (Nat.le_of_ble_eq_true rfl) d_L_law_824 rfl (fun v824 => ?_)
                            replace O := O2
                            refine r_istore (lv' := [(5, .int v824.1), (0, .ref 84), (1, .ref 0), (2, .ref 42), (3, .ref 41), (4, .int qv0)]) (pc := 827) O d_L_law_827 (by decide) rfl ?_
                            refine r_aload_n (pc := 829) O d_L_law_829 3 rfl ?_
                            refine r_callVv (pc := 830) O [] zl_ro zl_rc (sLv' (h := v824.2) zl_m (R_M_begin n (sbH 42 v824.2))) cw_L_law_830 wm_1176 wm_1177 rfl (Nat.le_of_ble_eq_true rfl) d_L_law_830 rfl (fun v830 => ?_)
                            refine r_aload_n (pc := 833) O d_L_law_833 3 rfl ?_
                            refine r_callVip (pc := 834) O [] zl_ro zl_rc (sLip (h := v830) zl_m (R_M_thrown n (sbH 42 v830))) cw_L_law_834 wm_1104 wm_1105 rfl (Nat.le_of_ble_eq_true rfl) d_L_law_834 rfl (fun v834 => ?_)
                            refine r_iload (pc := 837) O d_L_law_837 0 rfl ?_
                            refine r_icmp_eq (tgt := 844) (pc := 839) O d_L_law_839 (by decide) (fun q839 => ?_) (fun q839 => ?_)
                            · refine r_goto (pc := 844) O d_L_law_844 (tgt := 1321) (by decide) ?_
                              refine r_iinc (lv' := [(4, .int (qv0 + 5)), (5, .int v824.1), (0, .ref 84), (1, .ref 0), (2, .ref 42), (3, .ref 41)]) (pc := 1321) O d_L_law_1321 5 rfl (congrArg (HAdd.hAdd _) ic_5) (by decide) rfl ?_
                              refine r_goto (pc := 1324) O d_L_law_1324 (tgt := 23) (by decide) ?_
                              exact r_lv [2, 3, 4, 5, 0] rfl (hrec23 ((qv0 + 5), v830))
                            · refine r_iconst (pc := 842) O d_L_law_842 ic_0 ?_
                              exact r_zret (pc := 843) O rfl d_L_law_843 nb_0
                          · refine r_ite (fun q39_12 => ?_) (fun q39_12 => ?_)
                            · refine r_tin (tgt := 847) (pc := 39) O d_L_law_39 (by rw [q39_12] <;> decide) (by rw [q39_12] <;> decide) (by rw [q39_12] <;> rfl) (by decide) ?_
                              refine r_aload_n (pc := 847) O d_L_law_847 1 rfl ?_
                              refine r_aload_n (pc := 848) O d_L_law_848 0 rfl ?_
                              refine r_iload (pc := 849) O d_L_law_849 4 rfl ?_
                              refine r_iconst (pc := 851) O d_L_law_851 ic_1 ?_
                              refine r_iadd (pc := 852) O d_L_law_852 ?_
                              refine r_sld (x := (xs (ix (qv0 + 1)))) (pc := 853) O T zl_n d_L_law_853 rfl ?_
                              refine r_aload_n (pc := 854) O d_L_law_854 0 rfl ?_
                              refine r_iload (pc := 855) O d_L_law_855 4 rfl ?_
                              refine r_iconst (pc := 857) O d_L_law_857 ic_2 ?_
                              refine r_iadd (pc := 858) O d_L_law_858 ?_
                              refine r_sld (x := (xs (ix (qv0 + 2)))) (pc := 859) O T zl_n d_L_law_859 rfl ?_
                              refine r_aload_n (pc := 860) O d_L_law_860 0 rfl ?_
                              refine r_iload (pc := 861) O d_L_law_861 4 rfl ?_
                              refine r_iconst (pc := 863) O d_L_law_863 ic_3 ?_
                              refine r_iadd (pc := 864) O d_L_law_864 ?_
                              refine r_sld (x := (xs (ix (qv0 + 3)))) (pc := 865) O T zl_n d_L_law_865 rfl ?_
                              refine r_aload_n (pc := 866) O d_L_law_866 3 rfl ?_
                              refine r_callH (pc := 867) O O2 T [.ref 0, .int (xs (ix (qv0 + 1))), .int (xs (ix (qv0 + 2))), .int (xs (ix (qv0 + 3))), .ref 41] (sLh (h := qv1) zl_c (R_L_command n (xs (ix (qv0 + 1))) (xs (ix (qv0 + 2))) (xs (ix (qv0 + 3))) qv1)) ch_867 wm_590 rfl (Nat.le_of_ble_eq_true rfl) d_L_law_867 rfl (fun v867 => ?_)
                              replace O := O2
                              refine r_istore (lv' := [(5, .int v867.1), (0, .ref 84), (1, .ref 0), (2, .ref 42), (3, .ref 41), (4, .int qv0)]) (pc := 870) O d_L_law_870 (by decide) rfl ?_
                              refine r_aload_n (pc := 872) O d_L_law_872 3 rfl ?_
                              refine r_aload_n (pc := 873) O d_L_law_873 1 rfl ?_
                              refine r_iload (pc := 874) O d_L_law_874 5 rfl ?_
                              refine r_iconst (pc := 876) O d_L_law_876 ic_1 ?_
                              refine r_iadd (pc := 877) O d_L_law_877 ?_
                              refine r_sld (x := (xs (ix (qv0 + 1)))) (pc := 878) O T zl_n d_L_law_878 rfl ?_
                              refine r_aload_n (pc := 879) O d_L_law_879 1 rfl ?_
                              refine r_iload (pc := 880) O d_L_law_880 5 rfl ?_
                              refine r_iconst (pc := 882) O d_L_law_882 ic_2 ?_
                              refine r_iadd (pc := 883) O d_L_law_883 ?_
                              refine r_sld (x := (xs (ix (qv0 + 2)))) (pc := 884) O T zl_n d_L_law_884 rfl ?_
                              refine r_aload_n (pc := 885) O d_L_law_885 1 rfl ?_
                              refine r_iload (pc := 886) O d_L_law_886 5 rfl ?_
                              refine r_iconst (pc := 888) O d_L_law_888 ic_3 ?_
                              refine r_iadd (pc := 889) O d_L_law_889 ?_
                              refine r_sld (x := (xs (ix (qv0 + 3)))) (pc := 890) O T zl_n d_L_law_890 rfl ?_
                              refine r_callVi (pc := 891) O [.int (xs (ix (qv0 + 1))), .int (xs (ix (qv0 + 2))), .int (xs (ix (qv0 + 3)))] zl_ro zl_rc (sLi (h := v867.2) zl_m (R_M_command n (xs (ix (qv0 + 1))) (xs (ix (qv0 + 2))) (xs (ix (qv0 + 3))) (sbH 42 v867.2))) cw_L_law_891 wm_1180 wm_1181 rfl (Nat.le_of_ble_eq_true rfl) d_L_law_891 rfl (fun v891 => ?_)
                              refine r_istore (lv' := [(6, .int v891.1), (5, .int v867.1), (0, .ref 84), (1, .ref 0), (2, .ref 42), (3, .ref 41), (4, .int qv0)]) (pc := 894) O d_L_law_894 (by decide) rfl ?_
                              refine r_aload_n (pc := 896) O d_L_law_896 4 rfl ?_
                              refine r_callVip (pc := 897) O [] zl_ro zl_rc (sLip (h := v891.2) zl_m (R_M_thrown n (sbH 42 v891.2))) cw_L_law_897 wm_1104 wm_1105 rfl (Nat.le_of_ble_eq_true rfl) d_L_law_897 rfl (fun v897 => ?_)
                              refine r_iload (pc := 900) O d_L_law_900 1 rfl ?_
                              refine r_icmp_eq (tgt := 907) (pc := 902) O d_L_law_902 (by decide) (fun q902 => ?_) (fun q902 => ?_)
                              · refine r_iload (pc := 907) O d_L_law_907 1 rfl ?_
                                refine r_if_ne (tgt := 924) (pc := 909) O d_L_law_909 (by decide) (fun q909 => ?_) (fun q909 => ?_)
                                · refine r_goto (pc := 924) O d_L_law_924 (tgt := 1321) (by decide) ?_
                                  refine r_iinc (lv' := [(4, .int (qv0 + 5)), (6, .int v891.1), (5, .int v867.1), (0, .ref 84), (1, .ref 0), (2, .ref 42), (3, .ref 41)]) (pc := 1321) O d_L_law_1321 6 rfl (congrArg (HAdd.hAdd _) ic_5) (by decide) rfl ?_
                                  refine r_goto (pc := 1324) O d_L_law_1324 (tgt := 23) (by decide) ?_
                                  exact r_lv [3, 4, 5, 6, 0] rfl (hrec23 ((qv0 + 5), v891.2))
                                · refine r_aload_n (pc := 912) O d_L_law_912 5 rfl ?_
                                  refine r_iconst (pc := 913) O d_L_law_913 ic_0 ?_
                                  refine r_lald_c (x := (v891.2.2 41 (ix 0))) (pc := 914) O zl_o (sIn_iff.mp (by decide)) d_L_law_914 rfl ?_
                                  refine r_iload (pc := 915) O d_L_law_915 0 rfl ?_
                                  refine r_i2l (pc := 917) O d_L_law_917 ?_
                                  refine r_lcmp (pc := 918) O d_L_law_918 ?_
                                  refine r_if_eq (tgt := 924) (pc := 919) O d_L_law_919 (by decide) (fun q919 => ?_) (fun q919 => ?_)
                                  · refine r_goto (pc := 924) O d_L_law_924 (tgt := 1321) (by decide) ?_
                                    refine r_iinc (lv' := [(4, .int (qv0 + 5)), (6, .int v891.1), (5, .int v867.1), (0, .ref 84), (1, .ref 0), (2, .ref 42), (3, .ref 41)]) (pc := 1321) O d_L_law_1321 6 rfl (congrArg (HAdd.hAdd _) ic_5) (by decide) rfl ?_
                                    refine r_goto (pc := 1324) O d_L_law_1324 (tgt := 23) (by decide) ?_
                                    exact r_lv [3, 4, 5, 6, 0] rfl (hrec23 ((qv0 + 5), v891.2))
                                  · refine r_iconst (pc := 922) O d_L_law_922 ic_0 ?_
                                    exact r_zret (pc := 923) O rfl d_L_law_923 nb_0
                              · refine r_iconst (pc := 905) O d_L_law_905 ic_0 ?_
                                exact r_zret (pc := 906) O rfl d_L_law_906 nb_0
                            · refine r_ite (fun q39_13 => ?_) (fun q39_13 => ?_)
                              · refine r_tin (tgt := 927) (pc := 39) O d_L_law_39 (by rw [q39_13] <;> decide) (by rw [q39_13] <;> decide) (by rw [q39_13] <;> rfl) (by decide) ?_
                                refine r_aload_n (pc := 927) O d_L_law_927 1 rfl ?_
                                refine r_aload_n (pc := 928) O d_L_law_928 0 rfl ?_
                                refine r_iload (pc := 929) O d_L_law_929 4 rfl ?_
                                refine r_iconst (pc := 931) O d_L_law_931 ic_1 ?_
                                refine r_iadd (pc := 932) O d_L_law_932 ?_
                                refine r_sld (x := (xs (ix (qv0 + 1)))) (pc := 933) O T zl_n d_L_law_933 rfl ?_
                                refine r_callVip (pc := 934) O [.int (xs (ix (qv0 + 1)))] zl_so zl_sc (sLip (h := qv1) zl_c (R_S_said n (xs (ix (qv0 + 1))) qv1)) cw_L_law_934 wm_308 wm_309 rfl (Nat.le_of_ble_eq_true rfl) d_L_law_934 rfl (fun v934 => ?_)
                                refine r_aload_n (pc := 937) O d_L_law_937 2 rfl ?_
                                refine r_aload_n (pc := 938) O d_L_law_938 0 rfl ?_
                                refine r_iload (pc := 939) O d_L_law_939 4 rfl ?_
                                refine r_iconst (pc := 941) O d_L_law_941 ic_1 ?_
                                refine r_iadd (pc := 942) O d_L_law_942 ?_
                                refine r_sld (x := (xs (ix (qv0 + 1)))) (pc := 943) O T zl_n d_L_law_943 rfl ?_
                                refine r_callVi (pc := 944) O [.int (xs (ix (qv0 + 1)))] zl_ro zl_rc (sLi (h := qv1) zl_m (R_M_said n (xs (ix (qv0 + 1))) (sbH 42 qv1))) cw_L_law_944 wm_1228 wm_1229 rfl (Nat.le_of_ble_eq_true rfl) d_L_law_944 rfl (fun v944 => ?_)
                                refine r_icmp_eq (tgt := 1321) (pc := 947) O d_L_law_947 (by decide) (fun q947 => ?_) (fun q947 => ?_)
                                · refine r_iinc (lv' := [(4, .int (qv0 + 5)), (0, .ref 84), (1, .ref 0), (2, .ref 42), (3, .ref 41)]) (pc := 1321) O d_L_law_1321 4 rfl (congrArg (HAdd.hAdd _) ic_5) (by decide) rfl ?_
                                  refine r_goto (pc := 1324) O d_L_law_1324 (tgt := 23) (by decide) ?_
                                  refine r_up ?_
                                  exact r_lv [1, 2, 3, 4, 0] rfl (hrec23 ((qv0 + 5), v944.2))
                                · refine r_iconst (pc := 950) O d_L_law_950 ic_0 ?_
                                  exact r_zret (pc := 951) O rfl d_L_law_951 nb_0
                              · refine r_ite (fun q39_14 => ?_) (fun q39_14 => ?_)
                                · refine r_tin (tgt := 952) (pc := 39) O d_L_law_39 (by rw [q39_14] <;> decide) (by rw [q39_14] <;> decide) (by rw [q39_14] <;> rfl) (by decide) ?_
                                  refine r_aload_n (pc := 952) O d_L_law_952 1 rfl ?_
                                  refine r_callVi (pc := 953) O [] zl_so zl_sc (sLi (h := qv1) zl_c (R_S_undo n qv1)) cw_L_law_953 wm_315 wm_316 rfl (Nat.le_of_ble_eq_true rfl) d_L_law_953 rfl (fun v953 => ?_)
                                  refine r_aload_n (pc := 956) O d_L_law_956 2 rfl ?_
                                  refine r_callVi (pc := 957) O [] zl_ro zl_rc (sLi (h := v953.2) zl_m (R_M_undo n (sbH 42 v953.2))) cw_L_law_957 wm_1232 wm_1233 rfl (Nat.le_of_ble_eq_true rfl) d_L_law_957 rfl (fun v957 => ?_)
                                  refine r_icmp_eq (tgt := 1321) (pc := 960) O d_L_law_960 (by decide) (fun q960 => ?_) (fun q960 => ?_)
                                  · refine r_iinc (lv' := [(4, .int (qv0 + 5)), (0, .ref 84), (1, .ref 0), (2, .ref 42), (3, .ref 41)]) (pc := 1321) O d_L_law_1321 4 rfl (congrArg (HAdd.hAdd _) ic_5) (by decide) rfl ?_
                                    refine r_goto (pc := 1324) O d_L_law_1324 (tgt := 23) (by decide) ?_
                                    refine r_up ?_
                                    exact r_lv [1, 2, 3, 4, 0] rfl (hrec23 ((qv0 + 5), v957.2))
                                  · refine r_iconst (pc := 963) O d_L_law_963 ic_0 ?_
                                    exact r_zret (pc := 964) O rfl d_L_law_964 nb_0
                                · refine r_ite (fun q39_15 => ?_) (fun q39_15 => ?_)
                                  · refine r_tin (tgt := 965) (pc := 39) O d_L_law_39 (by rw [q39_15] <;> decide) (by rw [q39_15] <;> decide) (by rw [q39_15] <;> rfl) (by decide) ?_
                                    refine r_aload_n (pc := 965) O d_L_law_965 1 rfl ?_
                                    refine r_aload_n (pc := 966) O d_L_law_966 0 rfl ?_
                                    refine r_iload (pc := 967) O d_L_law_967 4 rfl ?_
                                    refine r_iconst (pc := 969) O d_L_law_969 ic_1 ?_
                                    refine r_iadd (pc := 970) O d_L_law_970 ?_
                                    refine r_sld (x := (xs (ix (qv0 + 1)))) (pc := 971) O T zl_n d_L_law_971 rfl ?_
                                    refine r_aload_n (pc := 972) O d_L_law_972 0 rfl ?_
                                    refine r_iload (pc := 973) O d_L_law_973 4 rfl ?_
                                    refine r_iconst (pc := 975) O d_L_law_975 ic_2 ?_
                                    refine r_iadd (pc := 976) O d_L_law_976 ?_
                                    refine r_sld (x := (xs (ix (qv0 + 2)))) (pc := 977) O T zl_n d_L_law_977 rfl ?_
                                    refine r_aload_n (pc := 978) O d_L_law_978 3 rfl ?_
                                    refine r_callH (pc := 979) O O2 T [.ref 0, .int (xs (ix (qv0 + 1))), .int (xs (ix (qv0 + 2))), .ref 41] (sLh (h := qv1) zl_c (R_L_state n (xs (ix (qv0 + 1))) (xs (ix (qv0 + 2))) qv1)) ch_979 wm_730 rfl (Nat.le_of_ble_eq_true rfl) d_L_law_979 rfl (fun v979 => ?_)
                                    replace O := O2
                                    refine r_istore (lv' := [(5, .int v979.1), (0, .ref 84), (1, .ref 0), (2, .ref 42), (3, .ref 41), (4, .int qv0)]) (pc := 982) O d_L_law_982 (by decide) rfl ?_
                                    refine r_aload_n (pc := 984) O d_L_law_984 3 rfl ?_
                                    refine r_aload_n (pc := 985) O d_L_law_985 1 rfl ?_
                                    refine r_iload (pc := 986) O d_L_law_986 5 rfl ?_
                                    refine r_iconst (pc := 988) O d_L_law_988 ic_1 ?_
                                    refine r_iadd (pc := 989) O d_L_law_989 ?_
                                    refine r_sld (x := (xs (ix (qv0 + 1)))) (pc := 990) O T zl_n d_L_law_990 rfl ?_
                                    refine r_aload_n (pc := 991) O d_L_law_991 1 rfl ?_
                                    refine r_iload (pc := 992) O d_L_law_992 5 rfl ?_
                                    refine r_iconst (pc := 994) O d_L_law_994 ic_2 ?_
                                    refine r_iadd (pc := 995) O d_L_law_995 ?_
                                    refine r_sld (x := (xs (ix (qv0 + 2)))) (pc := 996) O T zl_n d_L_law_996 rfl ?_
                                    refine r_callVi (pc := 997) O [.int (xs (ix (qv0 + 1))), .int (xs (ix (qv0 + 2)))] zl_ro zl_rc (sLi (h := v979.2) zl_m (R_M_state n (xs (ix (qv0 + 1))) (xs (ix (qv0 + 2))) (sbH 42 v979.2))) cw_L_law_997 wm_1236 wm_1237 rfl (Nat.le_of_ble_eq_true rfl) d_L_law_997 rfl (fun v997 => ?_)
                                    refine r_istore (lv' := [(6, .int v997.1), (5, .int v979.1), (0, .ref 84), (1, .ref 0), (2, .ref 42), (3, .ref 41), (4, .int qv0)]) (pc := 1000) O d_L_law_1000 (by decide) rfl ?_
                                    refine r_aload_n (pc := 1002) O d_L_law_1002 4 rfl ?_
                                    refine r_callVip (pc := 1003) O [] zl_ro zl_rc (sLip (h := v997.2) zl_m (R_M_thrown n (sbH 42 v997.2))) cw_L_law_1003 wm_1104 wm_1105 rfl (Nat.le_of_ble_eq_true rfl) d_L_law_1003 rfl (fun v1003 => ?_)
                                    refine r_iload (pc := 1006) O d_L_law_1006 1 rfl ?_
                                    refine r_icmp_eq (tgt := 1013) (pc := 1008) O d_L_law_1008 (by decide) (fun q1008 => ?_) (fun q1008 => ?_)
                                    · refine r_iload (pc := 1013) O d_L_law_1013 1 rfl ?_
                                      refine r_if_ne (tgt := 1030) (pc := 1015) O d_L_law_1015 (by decide) (fun q1015 => ?_) (fun q1015 => ?_)
                                      · refine r_goto (pc := 1030) O d_L_law_1030 (tgt := 1321) (by decide) ?_
                                        refine r_iinc (lv' := [(4, .int (qv0 + 5)), (6, .int v997.1), (5, .int v979.1), (0, .ref 84), (1, .ref 0), (2, .ref 42), (3, .ref 41)]) (pc := 1321) O d_L_law_1321 6 rfl (congrArg (HAdd.hAdd _) ic_5) (by decide) rfl ?_
                                        refine r_goto (pc := 1324) O d_L_law_1324 (tgt := 23) (by decide) ?_
                                        exact r_lv [3, 4, 5, 6, 0] rfl (hrec23 ((qv0 + 5), v997.2))
                                      · refine r_aload_n (pc := 1018) O d_L_law_1018 5 rfl ?_
                                        refine r_iconst (pc := 1019) O d_L_law_1019 ic_0 ?_
                                        refine r_lald_c (x := (v997.2.2 41 (ix 0))) (pc := 1020) O zl_o (sIn_iff.mp (by decide)) d_L_law_1020 rfl ?_
                                        refine r_iload (pc := 1021) O d_L_law_1021 0 rfl ?_
                                        refine r_i2l (pc := 1023) O d_L_law_1023 ?_
                                        refine r_lcmp (pc := 1024) O d_L_law_1024 ?_
                                        refine r_if_eq (tgt := 1030) (pc := 1025) O d_L_law_1025 (by decide) (fun q1025 => ?_) (fun q1025 => ?_)
                                        · refine r_goto (pc := 1030) O d_L_law_1030 (tgt := 1321) (by decide) ?_
                                          refine r_iinc (lv' := [(4, .int (qv0 + 5)), (6, .int v997.1), (5, .int v979.1), (0, .ref 84), (1, .ref 0), (2, .ref 42), (3, .ref 41)]) (pc := 1321) O d_L_law_1321 6 rfl (congrArg (HAdd.hAdd _) ic_5) (by decide) rfl ?_
                                          refine r_goto (pc := 1324) O d_L_law_1324 (tgt := 23) (by decide) ?_
                                          exact r_lv [3, 4, 5, 6, 0] rfl (hrec23 ((qv0 + 5), v997.2))
                                        · refine r_iconst (pc := 1028) O d_L_law_1028 ic_0 ?_
                                          exact r_zret (pc := 1029) O rfl d_L_law_1029 nb_0
                                    · refine r_iconst (pc := 1011) O d_L_law_1011 ic_0 ?_
                                      exact r_zret (pc := 1012) O rfl d_L_law_1012 nb_0
                                  · refine r_ite (fun q39_16 => ?_) (fun q39_16 => ?_)
                                    · refine r_tin (tgt := 1033) (pc := 39) O d_L_law_39 (by rw [q39_16] <;> decide) (by rw [q39_16] <;> decide) (by rw [q39_16] <;> rfl) (by decide) ?_
                                      refine r_aload_n (pc := 1033) O d_L_law_1033 1 rfl ?_
                                      refine r_aload_n (pc := 1034) O d_L_law_1034 0 rfl ?_
                                      refine r_iload (pc := 1035) O d_L_law_1035 4 rfl ?_
                                      refine r_iconst (pc := 1037) O d_L_law_1037 ic_1 ?_
                                      refine r_iadd (pc := 1038) O d_L_law_1038 ?_
                                      refine r_sld (x := (xs (ix (qv0 + 1)))) (pc := 1039) O T zl_n d_L_law_1039 rfl ?_
                                      refine r_aload_n (pc := 1040) O d_L_law_1040 3 rfl ?_
                                      refine r_callH (pc := 1041) O O2 T [.ref 0, .int (xs (ix (qv0 + 1))), .ref 41] (sLh (h := qv1) zl_c (R_L_explore n (xs (ix (qv0 + 1))) qv1)) ch_1041 wm_750 rfl (Nat.le_of_ble_eq_true rfl) d_L_law_1041 rfl (fun v1041 => ?_)
                                      replace O := O2
                                      refine r_istore (lv' := [(5, .int v1041.1), (0, .ref 84), (1, .ref 0), (2, .ref 42), (3, .ref 41), (4, .int qv0)]) (pc := 1044) O d_L_law_1044 (by decide) rfl ?_
                                      refine r_aload_n (pc := 1046) O d_L_law_1046 3 rfl ?_
                                      refine r_aload_n (pc := 1047) O d_L_law_1047 1 rfl ?_
                                      refine r_iload (pc := 1048) O d_L_law_1048 5 rfl ?_
                                      refine r_iconst (pc := 1050) O d_L_law_1050 ic_1 ?_
                                      refine r_iadd (pc := 1051) O d_L_law_1051 ?_
                                      refine r_sld (x := (xs (ix (qv0 + 1)))) (pc := 1052) O T zl_n d_L_law_1052 rfl ?_
                                      refine r_callVi (pc := 1053) O [.int (xs (ix (qv0 + 1)))] zl_ro zl_rc (sLi (h := v1041.2) zl_m (R_M_explore n (xs (ix (qv0 + 1))) (sbH 42 v1041.2))) cw_L_law_1053 wm_1240 wm_1241 rfl (Nat.le_of_ble_eq_true rfl) d_L_law_1053 rfl (fun v1053 => ?_)
                                      refine r_istore (lv' := [(6, .int v1053.1), (5, .int v1041.1), (0, .ref 84), (1, .ref 0), (2, .ref 42), (3, .ref 41), (4, .int qv0)]) (pc := 1056) O d_L_law_1056 (by decide) rfl ?_
                                      refine r_aload_n (pc := 1058) O d_L_law_1058 4 rfl ?_
                                      refine r_callVip (pc := 1059) O [] zl_ro zl_rc (sLip (h := v1053.2) zl_m (R_M_thrown n (sbH 42 v1053.2))) cw_L_law_1059 wm_1104 wm_1105 rfl (Nat.le_of_ble_eq_true rfl) d_L_law_1059 rfl (fun v1059 => ?_)
                                      refine r_iload (pc := 1062) O d_L_law_1062 1 rfl ?_
                                      refine r_icmp_eq (tgt := 1069) (pc := 1064) O d_L_law_1064 (by decide) (fun q1064 => ?_) (fun q1064 => ?_)
                                      · refine r_iload (pc := 1069) O d_L_law_1069 1 rfl ?_
                                        refine r_if_ne (tgt := 1086) (pc := 1071) O d_L_law_1071 (by decide) (fun q1071 => ?_) (fun q1071 => ?_)
                                        · refine r_goto (pc := 1086) O d_L_law_1086 (tgt := 1321) (by decide) ?_
                                          refine r_iinc (lv' := [(4, .int (qv0 + 5)), (6, .int v1053.1), (5, .int v1041.1), (0, .ref 84), (1, .ref 0), (2, .ref 42), (3, .ref 41)]) (pc := 1321) O d_L_law_1321 6 rfl (congrArg (HAdd.hAdd _) ic_5) (by decide) rfl ?_
                                          refine r_goto (pc := 1324) O d_L_law_1324 (tgt := 23) (by decide) ?_
                                          exact r_lv [3, 4, 5, 6, 0] rfl (hrec23 ((qv0 + 5), v1053.2))
                                        · refine r_aload_n (pc := 1074) O d_L_law_1074 5 rfl ?_
                                          refine r_iconst (pc := 1075) O d_L_law_1075 ic_0 ?_
                                          refine r_lald_c (x := (v1053.2.2 41 (ix 0))) (pc := 1076) O zl_o (sIn_iff.mp (by decide)) d_L_law_1076 rfl ?_
                                          refine r_iload (pc := 1077) O d_L_law_1077 0 rfl ?_
                                          refine r_i2l (pc := 1079) O d_L_law_1079 ?_
                                          refine r_lcmp (pc := 1080) O d_L_law_1080 ?_
                                          refine r_if_eq (tgt := 1086) (pc := 1081) O d_L_law_1081 (by decide) (fun q1081 => ?_) (fun q1081 => ?_)
                                          · refine r_goto (pc := 1086) O d_L_law_1086 (tgt := 1321) (by decide) ?_
                                            refine r_iinc (lv' := [(4, .int (qv0 + 5)), (6, .int v1053.1), (5, .int v1041.1), (0, .ref 84), (1, .ref 0), (2, .ref 42), (3, .ref 41)]) (pc := 1321) O d_L_law_1321 6 rfl (congrArg (HAdd.hAdd _) ic_5) (by decide) rfl ?_
                                            refine r_goto (pc := 1324) O d_L_law_1324 (tgt := 23) (by decide) ?_
                                            exact r_lv [3, 4, 5, 6, 0] rfl (hrec23 ((qv0 + 5), v1053.2))
                                          · refine r_iconst (pc := 1084) O d_L_law_1084 ic_0 ?_
                                            exact r_zret (pc := 1085) O rfl d_L_law_1085 nb_0
                                      · refine r_iconst (pc := 1067) O d_L_law_1067 ic_0 ?_
                                        exact r_zret (pc := 1068) O rfl d_L_law_1068 nb_0
                                    · refine r_ite (fun q39_17 => ?_) (fun q39_17 => ?_)
                                      · refine r_tin (tgt := 1089) (pc := 39) O d_L_law_39 (by rw [q39_17] <;> decide) (by rw [q39_17] <;> decide) (by rw [q39_17] <;> rfl) (by decide) ?_
                                        refine r_aload_n (pc := 1089) O d_L_law_1089 1 rfl ?_
                                        refine r_aload_n (pc := 1090) O d_L_law_1090 0 rfl ?_
                                        refine r_iload (pc := 1091) O d_L_law_1091 4 rfl ?_
                                        refine r_iconst (pc := 1093) O d_L_law_1093 ic_1 ?_
                                        refine r_iadd (pc := 1094) O d_L_law_1094 ?_
                                        refine r_sld (x := (xs (ix (qv0 + 1)))) (pc := 1095) O T zl_n d_L_law_1095 rfl ?_
                                        refine r_aload_n (pc := 1096) O d_L_law_1096 0 rfl ?_
                                        refine r_iload (pc := 1097) O d_L_law_1097 4 rfl ?_
                                        refine r_iconst (pc := 1099) O d_L_law_1099 ic_2 ?_
                                        refine r_iadd (pc := 1100) O d_L_law_1100 ?_
                                        refine r_sld (x := (xs (ix (qv0 + 2)))) (pc := 1101) O T zl_n d_L_law_1101 rfl ?_
                                        refine r_if_eq (tgt := 1109) (pc := 1102) O d_L_law_1102 (by decide) (fun q1102 => ?_) (fun q1102 => ?_)
                                        · refine r_iconst (pc := 1109) O d_L_law_1109 ic_0 ?_
                                          refine r_aload_n (pc := 1110) O d_L_law_1110 3 rfl ?_
                                          refine r_callH (pc := 1111) O O2 T [.ref 0, .int (xs (ix (qv0 + 1))), .int 0, .ref 41] (sLh (h := qv1) zl_c (R_L_reach n (xs (ix (qv0 + 1))) 0 qv1)) ch_1111 wm_835 rfl (Nat.le_of_ble_eq_true rfl) d_L_law_1111 rfl (fun v1111 => ?_)
                                          replace O := O2
                                          refine r_istore (lv' := [(5, .int v1111.1), (0, .ref 84), (1, .ref 0), (2, .ref 42), (3, .ref 41), (4, .int qv0)]) (pc := 1114) O d_L_law_1114 (by decide) rfl ?_
                                          refine r_aload_n (pc := 1116) O d_L_law_1116 3 rfl ?_
                                          refine r_aload_n (pc := 1117) O d_L_law_1117 1 rfl ?_
                                          refine r_iload (pc := 1118) O d_L_law_1118 5 rfl ?_
                                          refine r_iconst (pc := 1120) O d_L_law_1120 ic_1 ?_
                                          refine r_iadd (pc := 1121) O d_L_law_1121 ?_
                                          refine r_sld (x := (xs (ix (qv0 + 1)))) (pc := 1122) O T zl_n d_L_law_1122 rfl ?_
                                          refine r_aload_n (pc := 1123) O d_L_law_1123 1 rfl ?_
                                          refine r_iload (pc := 1124) O d_L_law_1124 5 rfl ?_
                                          refine r_iconst (pc := 1126) O d_L_law_1126 ic_2 ?_
                                          refine r_iadd (pc := 1127) O d_L_law_1127 ?_
                                          refine r_sld (x := (xs (ix (qv0 + 2)))) (pc := 1128) O T zl_n d_L_law_1128 rfl ?_
                                          refine r_if_eq_t (tgt := 1136) (pc := 1129) O d_L_law_1129 (by decide) (by rw [q1102] <;> decide) ?_
                                          refine r_iconst (pc := 1136) O d_L_law_1136 ic_0 ?_
                                          refine r_callVi (pc := 1137) O [.int (xs (ix (qv0 + 1))), .int 0] zl_ro zl_rc (sLi (h := v1111.2) zl_m (R_M_reach n (xs (ix (qv0 + 1))) 0 (sbH 42 v1111.2))) cw_L_law_1137 wm_1256 wm_1257 rfl (Nat.le_of_ble_eq_true rfl) d_L_law_1137 rfl (fun v1137 => ?_)
                                          refine r_istore (lv' := [(6, .int v1137.1), (5, .int v1111.1), (0, .ref 84), (1, .ref 0), (2, .ref 42), (3, .ref 41), (4, .int qv0)]) (pc := 1140) O d_L_law_1140 (by decide) rfl ?_
                                          refine r_aload_n (pc := 1142) O d_L_law_1142 4 rfl ?_
                                          refine r_callVip (pc := 1143) O [] zl_ro zl_rc (sLip (h := v1137.2) zl_m (R_M_thrown n (sbH 42 v1137.2))) cw_L_law_1143 wm_1104 wm_1105 rfl (Nat.le_of_ble_eq_true rfl) d_L_law_1143 rfl (fun v1143 => ?_)
                                          refine r_iload (pc := 1146) O d_L_law_1146 1 rfl ?_
                                          refine r_icmp_eq (tgt := 1153) (pc := 1148) O d_L_law_1148 (by decide) (fun q1148 => ?_) (fun q1148 => ?_)
                                          · refine r_iload (pc := 1153) O d_L_law_1153 1 rfl ?_
                                            refine r_if_ne (tgt := 1170) (pc := 1155) O d_L_law_1155 (by decide) (fun q1155 => ?_) (fun q1155 => ?_)
                                            · refine r_goto (pc := 1170) O d_L_law_1170 (tgt := 1321) (by decide) ?_
                                              refine r_iinc (lv' := [(4, .int (qv0 + 5)), (6, .int v1137.1), (5, .int v1111.1), (0, .ref 84), (1, .ref 0), (2, .ref 42), (3, .ref 41)]) (pc := 1321) O d_L_law_1321 6 rfl (congrArg (HAdd.hAdd _) ic_5) (by decide) rfl ?_
                                              refine r_goto (pc := 1324) O d_L_law_1324 (tgt := 23) (by decide) ?_
                                              exact r_lv [3, 4, 5, 6, 0] rfl (hrec23 ((qv0 + 5), v1137.2))
                                            · refine r_aload_n (pc := 1158) O d_L_law_1158 5 rfl ?_
                                              refine r_iconst (pc := 1159) O d_L_law_1159 ic_0 ?_
                                              refine r_lald_c (x := (v1137.2.2 41 (ix 0))) (pc := 1160) O zl_o (sIn_iff.mp (by decide)) d_L_law_1160 rfl ?_
                                              refine r_iload (pc := 1161) O d_L_law_1161 0 rfl ?_
                                              refine r_i2l (pc := 1163) O d_L_law_1163 ?_
                                              refine r_lcmp (pc := 1164) O d_L_law_1164 ?_
                                              refine r_if_eq (tgt := 1170) (pc := 1165) O d_L_law_1165 (by decide) (fun q1165 => ?_) (fun q1165 => ?_)
                                              · refine r_goto (pc := 1170) O d_L_law_1170 (tgt := 1321) (by decide) ?_
                                                refine r_iinc (lv' := [(4, .int (qv0 + 5)), (6, .int v1137.1), (5, .int v1111.1), (0, .ref 84), (1, .ref 0), (2, .ref 42), (3, .ref 41)]) (pc := 1321) O d_L_law_1321 6 rfl (congrArg (HAdd.hAdd _) ic_5) (by decide) rfl ?_
                                                refine r_goto (pc := 1324) O d_L_law_1324 (tgt := 23) (by decide) ?_
                                                exact r_lv [3, 4, 5, 6, 0] rfl (hrec23 ((qv0 + 5), v1137.2))
                                              · refine r_iconst (pc := 1168) O d_L_law_1168 ic_0 ?_
                                                exact r_zret (pc := 1169) O rfl d_L_law_1169 nb_0
                                          · refine r_iconst (pc := 1151) O d_L_law_1151 ic_0 ?_
                                            exact r_zret (pc := 1152) O rfl d_L_law_1152 nb_0
                                        · refine r_iconst (pc := 1105) O d_L_law_1105 ic_1 ?_
                                          refine r_goto (pc := 1106) O d_L_law_1106 (tgt := 1110) (by decide) ?_
                                          refine r_aload_n (pc := 1110) O d_L_law_1110 3 rfl ?_
                                          refine r_callH (pc := 1111) O O2 T [.ref 0, .int (xs (ix (qv0 + 1))), .int 1, .ref 41] (sLh (h := qv1) zl_c (R_L_reach n (xs (ix (qv0 + 1))) 1 qv1)) ch_1111 wm_835 rfl (Nat.le_of_ble_eq_true rfl) d_L_law_1111 rfl (fun v1111 => ?_)
                                          replace O := O2
                                          refine r_istore (lv' := [(5, .int v1111.1), (0, .ref 84), (1, .ref 0), (2, .ref 42), (3, .ref 41), (4, .int qv0)]) (pc := 1114) O d_L_law_1114 (by decide) rfl ?_
                                          refine r_aload_n (pc := 1116) O d_L_law_1116 3 rfl ?_
                                          refine r_aload_n (pc := 1117) O d_L_law_1117 1 rfl ?_
                                          refine r_iload (pc := 1118) O d_L_law_1118 5 rfl ?_
                                          refine r_iconst (pc := 1120) O d_L_law_1120 ic_1 ?_
                                          refine r_iadd (pc := 1121) O d_L_law_1121 ?_
                                          refine r_sld (x := (xs (ix (qv0 + 1)))) (pc := 1122) O T zl_n d_L_law_1122 rfl ?_
                                          refine r_aload_n (pc := 1123) O d_L_law_1123 1 rfl ?_
                                          refine r_iload (pc := 1124) O d_L_law_1124 5 rfl ?_
                                          refine r_iconst (pc := 1126) O d_L_law_1126 ic_2 ?_
                                          refine r_iadd (pc := 1127) O d_L_law_1127 ?_
                                          refine r_sld (x := (xs (ix (qv0 + 2)))) (pc := 1128) O T zl_n d_L_law_1128 rfl ?_
                                          refine r_if_eq (tgt := 1136) (pc := 1129) O d_L_law_1129 (by decide) (fun q1129 => ?_) (fun q1129 => ?_)
                                          · refine r_iconst (pc := 1136) O d_L_law_1136 ic_0 ?_
                                            refine r_callVi (pc := 1137) O [.int (xs (ix (qv0 + 1))), .int 0] zl_ro zl_rc (sLi (h := v1111.2) zl_m (R_M_reach n (xs (ix (qv0 + 1))) 0 (sbH 42 v1111.2))) cw_L_law_1137 wm_1256 wm_1257 rfl (Nat.le_of_ble_eq_true rfl) d_L_law_1137 rfl (fun v1137 => ?_)
                                            refine r_istore (lv' := [(6, .int v1137.1), (5, .int v1111.1), (0, .ref 84), (1, .ref 0), (2, .ref 42), (3, .ref 41), (4, .int qv0)]) (pc := 1140) O d_L_law_1140 (by decide) rfl ?_
                                            refine r_aload_n (pc := 1142) O d_L_law_1142 4 rfl ?_
                                            refine r_callVip (pc := 1143) O [] zl_ro zl_rc (sLip (h := v1137.2) zl_m (R_M_thrown n (sbH 42 v1137.2))) cw_L_law_1143 wm_1104 wm_1105 rfl (Nat.le_of_ble_eq_true rfl) d_L_law_1143 rfl (fun v1143 => ?_)
                                            refine r_iload (pc := 1146) O d_L_law_1146 1 rfl ?_
                                            refine r_icmp_eq (tgt := 1153) (pc := 1148) O d_L_law_1148 (by decide) (fun q1148 => ?_) (fun q1148 => ?_)
                                            · refine r_iload (pc := 1153) O d_L_law_1153 1 rfl ?_
                                              refine r_if_ne (tgt := 1170) (pc := 1155) O d_L_law_1155 (by decide) (fun q1155 => ?_) (fun q1155 => ?_)
                                              · refine r_goto (pc := 1170) O d_L_law_1170 (tgt := 1321) (by decide) ?_
                                                refine r_iinc (lv' := [(4, .int (qv0 + 5)), (6, .int v1137.1), (5, .int v1111.1), (0, .ref 84), (1, .ref 0), (2, .ref 42), (3, .ref 41)]) (pc := 1321) O d_L_law_1321 6 rfl (congrArg (HAdd.hAdd _) ic_5) (by decide) rfl ?_
                                                refine r_goto (pc := 1324) O d_L_law_1324 (tgt := 23) (by decide) ?_
                                                exact r_lv [3, 4, 5, 6, 0] rfl (hrec23 ((qv0 + 5), v1137.2))
                                              · refine r_aload_n (pc := 1158) O d_L_law_1158 5 rfl ?_
                                                refine r_iconst (pc := 1159) O d_L_law_1159 ic_0 ?_
                                                refine r_lald_c (x := (v1137.2.2 41 (ix 0))) (pc := 1160) O zl_o (sIn_iff.mp (by decide)) d_L_law_1160 rfl ?_
                                                refine r_iload (pc := 1161) O d_L_law_1161 0 rfl ?_
                                                refine r_i2l (pc := 1163) O d_L_law_1163 ?_
                                                refine r_lcmp (pc := 1164) O d_L_law_1164 ?_
                                                refine r_if_eq (tgt := 1170) (pc := 1165) O d_L_law_1165 (by decide) (fun q1165 => ?_) (fun q1165 => ?_)
                                                · refine r_goto (pc := 1170) O d_L_law_1170 (tgt := 1321) (by decide) ?_
                                                  refine r_iinc (lv' := [(4, .int (qv0 + 5)), (6, .int v1137.1), (5, .int v1111.1), (0, .ref 84), (1, .ref 0), (2, .ref 42), (3, .ref 41)]) (pc := 1321) O d_L_law_1321 6 rfl (congrArg (HAdd.hAdd _) ic_5) (by decide) rfl ?_
                                                  refine r_goto (pc := 1324) O d_L_law_1324 (tgt := 23) (by decide) ?_
                                                  exact r_lv [3, 4, 5, 6, 0] rfl (hrec23 ((qv0 + 5), v1137.2))
                                                · refine r_iconst (pc := 1168) O d_L_law_1168 ic_0 ?_
                                                  exact r_zret (pc := 1169) O rfl d_L_law_1169 nb_0
                                            · refine r_iconst (pc := 1151) O d_L_law_1151 ic_0 ?_
                                              exact r_zret (pc := 1152) O rfl d_L_law_1152 nb_0
                                          · refine r_iconst (pc := 1132) O d_L_law_1132 ic_1 ?_
                                            refine r_goto (pc := 1133) O d_L_law_1133 (tgt := 1137) (by decide) ?_
                                            refine r_callVi (pc := 1137) O [.int (xs (ix (qv0 + 1))), .int 1] zl_ro zl_rc (sLi (h := v1111.2) zl_m (R_M_reach n (xs (ix (qv0 + 1))) 1 (sbH 42 v1111.2))) cw_L_law_1137 wm_1256 wm_1257 rfl (Nat.le_of_ble_eq_true rfl) d_L_law_1137 rfl (fun v1137 => ?_)
                                            refine r_istore (lv' := [(6, .int v1137.1), (5, .int v1111.1), (0, .ref 84), (1, .ref 0), (2, .ref 42), (3, .ref 41), (4, .int qv0)]) (pc := 1140) O d_L_law_1140 (by decide) rfl ?_
                                            refine r_aload_n (pc := 1142) O d_L_law_1142 4 rfl ?_
                                            refine r_callVip (pc := 1143) O [] zl_ro zl_rc (sLip (h := v1137.2) zl_m (R_M_thrown n (sbH 42 v1137.2))) cw_L_law_1143 wm_1104 wm_1105 rfl (Nat.le_of_ble_eq_true rfl) d_L_law_1143 rfl (fun v1143 => ?_)
                                            refine r_iload (pc := 1146) O d_L_law_1146 1 rfl ?_
                                            refine r_icmp_eq (tgt := 1153) (pc := 1148) O d_L_law_1148 (by decide) (fun q1148 => ?_) (fun q1148 => ?_)
                                            · refine r_iload (pc := 1153) O d_L_law_1153 1 rfl ?_
                                              refine r_if_ne (tgt := 1170) (pc := 1155) O d_L_law_1155 (by decide) (fun q1155 => ?_) (fun q1155 => ?_)
                                              · refine r_goto (pc := 1170) O d_L_law_1170 (tgt := 1321) (by decide) ?_
                                                refine r_iinc (lv' := [(4, .int (qv0 + 5)), (6, .int v1137.1), (5, .int v1111.1), (0, .ref 84), (1, .ref 0), (2, .ref 42), (3, .ref 41)]) (pc := 1321) O d_L_law_1321 6 rfl (congrArg (HAdd.hAdd _) ic_5) (by decide) rfl ?_
                                                refine r_goto (pc := 1324) O d_L_law_1324 (tgt := 23) (by decide) ?_
                                                exact r_lv [3, 4, 5, 6, 0] rfl (hrec23 ((qv0 + 5), v1137.2))
                                              · refine r_aload_n (pc := 1158) O d_L_law_1158 5 rfl ?_
                                                refine r_iconst (pc := 1159) O d_L_law_1159 ic_0 ?_
                                                refine r_lald_c (x := (v1137.2.2 41 (ix 0))) (pc := 1160) O zl_o (sIn_iff.mp (by decide)) d_L_law_1160 rfl ?_
                                                refine r_iload (pc := 1161) O d_L_law_1161 0 rfl ?_
                                                refine r_i2l (pc := 1163) O d_L_law_1163 ?_
                                                refine r_lcmp (pc := 1164) O d_L_law_1164 ?_
                                                refine r_if_eq (tgt := 1170) (pc := 1165) O d_L_law_1165 (by decide) (fun q1165 => ?_) (fun q1165 => ?_)
                                                · refine r_goto (pc := 1170) O d_L_law_1170 (tgt := 1321) (by decide) ?_
                                                  refine r_iinc (lv' := [(4, .int (qv0 + 5)), (6, .int v1137.1), (5, .int v1111.1), (0, .ref 84), (1, .ref 0), (2, .ref 42), (3, .ref 41)]) (pc := 1321) O d_L_law_1321 6 rfl (congrArg (HAdd.hAdd _) ic_5) (by decide) rfl ?_
                                                  refine r_goto (pc := 1324) O d_L_law_1324 (tgt := 23) (by decide) ?_
                                                  exact r_lv [3, 4, 5, 6, 0] rfl (hrec23 ((qv0 + 5), v1137.2))
                                                · refine r_iconst (pc := 1168) O d_L_law_1168 ic_0 ?_
                                                  exact r_zret (pc := 1169) O rfl d_L_law_1169 nb_0
                                            · refine r_iconst (pc := 1151) O d_L_law_1151 ic_0 ?_
                                              exact r_zret (pc := 1152) O rfl d_L_law_1152 nb_0
                                      · refine r_ite (fun q39_18 => ?_) (fun q39_18 => ?_)
                                        · refine r_tin (tgt := 1173) (pc := 39) O d_L_law_39 (by rw [q39_18] <;> decide) (by rw [q39_18] <;> decide) (by rw [q39_18] <;> rfl) (by decide) ?_
                                          refine r_aload_n (pc := 1173) O d_L_law_1173 1 rfl ?_
                                          refine r_aload_n (pc := 1174) O d_L_law_1174 0 rfl ?_
                                          refine r_iload (pc := 1175) O d_L_law_1175 4 rfl ?_
                                          refine r_iconst (pc := 1177) O d_L_law_1177 ic_1 ?_
                                          refine r_iadd (pc := 1178) O d_L_law_1178 ?_
                                          refine r_sld (x := (xs (ix (qv0 + 1)))) (pc := 1179) O T zl_n d_L_law_1179 rfl ?_
                                          refine r_aload_n (pc := 1180) O d_L_law_1180 0 rfl ?_
                                          refine r_iload (pc := 1181) O d_L_law_1181 4 rfl ?_
                                          refine r_iconst (pc := 1183) O d_L_law_1183 ic_2 ?_
                                          refine r_iadd (pc := 1184) O d_L_law_1184 ?_
                                          refine r_sld (x := (xs (ix (qv0 + 2)))) (pc := 1185) O T zl_n d_L_law_1185 rfl ?_
                                          refine r_aload_n (pc := 1186) O d_L_law_1186 0 rfl ?_
                                          refine r_iload (pc := 1187) O d_L_law_1187 4 rfl ?_
                                          refine r_iconst (pc := 1189) O d_L_law_1189 ic_3 ?_
                                          refine r_iadd (pc := 1190) O d_L_law_1190 ?_
                                          refine r_sld (x := (xs (ix (qv0 + 3)))) (pc := 1191) O T zl_n d_L_law_1191 rfl ?_
                                          refine r_aload_n (pc := 1192) O d_L_law_1192 3 rfl ?_
                                          refine r_callH (pc := 1193) O O2 T [.ref 0, .int (xs (ix (qv0 + 1))), .int (xs (ix (qv0 + 2))), .int (xs (ix (qv0 + 3))), .ref 41] (sLh (h := qv1) zl_c (R_L_way n (xs (ix (qv0 + 1))) (xs (ix (qv0 + 2))) (xs (ix (qv0 + 3))) qv1)) ch_1193 wm_850 rfl (Nat.le_of_ble_eq_true rfl) d_L_law_1193 rfl (fun v1193 => ?_)
                                          replace O := O2
                                          refine r_istore (lv' := [(5, .int v1193.1), (0, .ref 84), (1, .ref 0), (2, .ref 42), (3, .ref 41), (4, .int qv0)]) (pc := 1196) O d_L_law_1196 (by decide) rfl ?_
                                          refine r_aload_n (pc := 1198) O d_L_law_1198 3 rfl ?_
                                          refine r_aload_n (pc := 1199) O d_L_law_1199 1 rfl ?_
                                          refine r_iload (pc := 1200) O d_L_law_1200 5 rfl ?_
                                          refine r_iconst (pc := 1202) O d_L_law_1202 ic_1 ?_
                                          refine r_iadd (pc := 1203) O d_L_law_1203 ?_
                                          refine r_sld (x := (xs (ix (qv0 + 1)))) (pc := 1204) O T zl_n d_L_law_1204 rfl ?_
                                          refine r_aload_n (pc := 1205) O d_L_law_1205 1 rfl ?_
                                          refine r_iload (pc := 1206) O d_L_law_1206 5 rfl ?_
                                          refine r_iconst (pc := 1208) O d_L_law_1208 ic_2 ?_
                                          refine r_iadd (pc := 1209) O d_L_law_1209 ?_
                                          refine r_sld (x := (xs (ix (qv0 + 2)))) (pc := 1210) O T zl_n d_L_law_1210 rfl ?_
                                          refine r_aload_n (pc := 1211) O d_L_law_1211 1 rfl ?_
                                          refine r_iload (pc := 1212) O d_L_law_1212 5 rfl ?_
                                          refine r_iconst (pc := 1214) O d_L_law_1214 ic_3 ?_
                                          refine r_iadd (pc := 1215) O d_L_law_1215 ?_
                                          refine r_sld (x := (xs (ix (qv0 + 3)))) (pc := 1216) O T zl_n d_L_law_1216 rfl ?_
                                          refine r_callVi (pc := 1217) O [.int (xs (ix (qv0 + 1))), .int (xs (ix (qv0 + 2))), .int (xs (ix (qv0 + 3)))] zl_ro zl_rc (sLi (h := v1193.2) zl_m (R_M_way n (xs (ix (qv0 + 1))) (xs (ix (qv0 + 2))) (xs (ix (qv0 + 3))) (sbH 42 v1193.2))) cw_L_law_1217 wm_1272 wm_1273 rfl (Nat.le_of_ble_eq_true rfl) d_L_law_1217 rfl (fun v1217 => ?_)
                                          refine r_istore (lv' := [(6, .int v1217.1), (5, .int v1193.1), (0, .ref 84), (1, .ref 0), (2, .ref 42), (3, .ref 41), (4, .int qv0)]) (pc := 1220) O d_L_law_1220 (by decide) rfl ?_
                                          refine r_aload_n (pc := 1222) O d_L_law_1222 4 rfl ?_
                                          refine r_callVip (pc := 1223) O [] zl_ro zl_rc (sLip (h := v1217.2) zl_m (R_M_thrown n (sbH 42 v1217.2))) cw_L_law_1223 wm_1104 wm_1105 rfl (Nat.le_of_ble_eq_true rfl) d_L_law_1223 rfl (fun v1223 => ?_)
                                          refine r_iload (pc := 1226) O d_L_law_1226 1 rfl ?_
                                          refine r_icmp_eq (tgt := 1233) (pc := 1228) O d_L_law_1228 (by decide) (fun q1228 => ?_) (fun q1228 => ?_)
                                          · refine r_iload (pc := 1233) O d_L_law_1233 1 rfl ?_
                                            refine r_if_ne (tgt := 1250) (pc := 1235) O d_L_law_1235 (by decide) (fun q1235 => ?_) (fun q1235 => ?_)
                                            · refine r_goto (pc := 1250) O d_L_law_1250 (tgt := 1321) (by decide) ?_
                                              refine r_iinc (lv' := [(4, .int (qv0 + 5)), (6, .int v1217.1), (5, .int v1193.1), (0, .ref 84), (1, .ref 0), (2, .ref 42), (3, .ref 41)]) (pc := 1321) O d_L_law_1321 6 rfl (congrArg (HAdd.hAdd _) ic_5) (by decide) rfl ?_
                                              refine r_goto (pc := 1324) O d_L_law_1324 (tgt := 23) (by decide) ?_
                                              exact r_lv [3, 4, 5, 6, 0] rfl (hrec23 ((qv0 + 5), v1217.2))
                                            · refine r_aload_n (pc := 1238) O d_L_law_1238 5 rfl ?_
                                              refine r_iconst (pc := 1239) O d_L_law_1239 ic_0 ?_
                                              refine r_lald_c (x := (v1217.2.2 41 (ix 0))) (pc := 1240) O zl_o (sIn_iff.mp (by decide)) d_L_law_1240 rfl ?_
                                              refine r_iload (pc := 1241) O d_L_law_1241 0 rfl ?_
                                              refine r_i2l (pc := 1243) O d_L_law_1243 ?_
                                              refine r_lcmp (pc := 1244) O d_L_law_1244 ?_
                                              refine r_if_eq (tgt := 1250) (pc := 1245) O d_L_law_1245 (by decide) (fun q1245 => ?_) (fun q1245 => ?_)
                                              · refine r_goto (pc := 1250) O d_L_law_1250 (tgt := 1321) (by decide) ?_
                                                refine r_iinc (lv' := [(4, .int (qv0 + 5)), (6, .int v1217.1), (5, .int v1193.1), (0, .ref 84), (1, .ref 0), (2, .ref 42), (3, .ref 41)]) (pc := 1321) O d_L_law_1321 6 rfl (congrArg (HAdd.hAdd _) ic_5) (by decide) rfl ?_
                                                refine r_goto (pc := 1324) O d_L_law_1324 (tgt := 23) (by decide) ?_
                                                exact r_lv [3, 4, 5, 6, 0] rfl (hrec23 ((qv0 + 5), v1217.2))
                                              · refine r_iconst (pc := 1248) O d_L_law_1248 ic_0 ?_
                                                exact r_zret (pc := 1249) O rfl d_L_law_1249 nb_0
                                          · refine r_iconst (pc := 1231) O d_L_law_1231 ic_0 ?_
                                            exact r_zret (pc := 1232) O rfl d_L_law_1232 nb_0
                                        · refine r_ite (fun q39_19 => ?_) (fun q39_19 => ?_)
                                          · refine r_tin (tgt := 1253) (pc := 39) O d_L_law_39 (by rw [q39_19] <;> decide) (by rw [q39_19] <;> decide) (by rw [q39_19] <;> rfl) (by decide) ?_
                                            refine r_aload_n (pc := 1253) O d_L_law_1253 1 rfl ?_
                                            refine r_aload_n (pc := 1254) O d_L_law_1254 0 rfl ?_
                                            refine r_iload (pc := 1255) O d_L_law_1255 4 rfl ?_
                                            refine r_iconst (pc := 1257) O d_L_law_1257 ic_1 ?_
                                            refine r_iadd (pc := 1258) O d_L_law_1258 ?_
                                            refine r_sld (x := (xs (ix (qv0 + 1)))) (pc := 1259) O T zl_n d_L_law_1259 rfl ?_
                                            refine r_aload_n (pc := 1260) O d_L_law_1260 0 rfl ?_
                                            refine r_iload (pc := 1261) O d_L_law_1261 4 rfl ?_
                                            refine r_iconst (pc := 1263) O d_L_law_1263 ic_2 ?_
                                            refine r_iadd (pc := 1264) O d_L_law_1264 ?_
                                            refine r_sld (x := (xs (ix (qv0 + 2)))) (pc := 1265) O T zl_n d_L_law_1265 rfl ?_
                                            refine r_aload_n (pc := 1266) O d_L_law_1266 3 rfl ?_
                                            refine r_callH (pc := 1267) O O2 T [.ref 0, .int (xs (ix (qv0 + 1))), .int (xs (ix (qv0 + 2))), .ref 41] (sLh (h := qv1) zl_c (R_L_study n (xs (ix (qv0 + 1))) (xs (ix (qv0 + 2))) qv1)) ch_1267 wm_865 rfl (Nat.le_of_ble_eq_true rfl) d_L_law_1267 rfl (fun v1267 => ?_)
                                            replace O := O2
                                            refine r_istore (lv' := [(5, .int v1267.1), (0, .ref 84), (1, .ref 0), (2, .ref 42), (3, .ref 41), (4, .int qv0)]) (pc := 1270) O d_L_law_1270 (by decide) rfl ?_
                                            refine r_aload_n (pc := 1272) O d_L_law_1272 3 rfl ?_
                                            refine r_aload_n (pc := 1273) O d_L_law_1273 1 rfl ?_
                                            refine r_iload (pc := 1274) O d_L_law_1274 5 rfl ?_
                                            refine r_iconst (pc := 1276) O d_L_law_1276 ic_1 ?_
                                            refine r_iadd (pc := 1277) O d_L_law_1277 ?_
                                            refine r_sld (x := (xs (ix (qv0 + 1)))) (pc := 1278) O T zl_n d_L_law_1278 rfl ?_
                                            refine r_aload_n (pc := 1279) O d_L_law_1279 1 rfl ?_
                                            refine r_iload (pc := 1280) O d_L_law_1280 5 rfl ?_
                                            refine r_iconst (pc := 1282) O d_L_law_1282 ic_2 ?_
                                            refine r_iadd (pc := 1283) O d_L_law_1283 ?_
                                            refine r_sld (x := (xs (ix (qv0 + 2)))) (pc := 1284) O T zl_n d_L_law_1284 rfl ?_
                                            refine r_callVi (pc := 1285) O [.int (xs (ix (qv0 + 1))), .int (xs (ix (qv0 + 2)))] zl_ro zl_rc (sLi (h := v1267.2) zl_m (R_M_study n (xs (ix (qv0 + 1))) (xs (ix (qv0 + 2))) (sbH 42 v1267.2))) cw_L_law_1285 wm_1276 wm_1277 rfl (Nat.le_of_ble_eq_true rfl) d_L_law_1285 rfl (fun v1285 => ?_)
                                            refine r_istore (lv' := [(6, .int v1285.1), (5, .int v1267.1), (0, .ref 84), (1, .ref 0), (2, .ref 42), (3, .ref 41), (4, .int qv0)]) (pc := 1288) O d_L_law_1288 (by decide) rfl ?_
                                            refine r_aload_n (pc := 1290) O d_L_law_1290 4 rfl ?_
                                            refine r_callVip (pc := 1291) O [] zl_ro zl_rc (sLip (h := v1285.2) zl_m (R_M_thrown n (sbH 42 v1285.2))) cw_L_law_1291 wm_1104 wm_1105 rfl (Nat.le_of_ble_eq_true rfl) d_L_law_1291 rfl (fun v1291 => ?_)
                                            refine r_iload (pc := 1294) O d_L_law_1294 1 rfl ?_
                                            refine r_icmp_eq (tgt := 1301) (pc := 1296) O d_L_law_1296 (by decide) (fun q1296 => ?_) (fun q1296 => ?_)
                                            · refine r_iload (pc := 1301) O d_L_law_1301 1 rfl ?_
                                              refine r_if_ne (tgt := 1318) (pc := 1303) O d_L_law_1303 (by decide) (fun q1303 => ?_) (fun q1303 => ?_)
                                              · refine r_goto (pc := 1318) O d_L_law_1318 (tgt := 1321) (by decide) ?_
                                                refine r_iinc (lv' := [(4, .int (qv0 + 5)), (6, .int v1285.1), (5, .int v1267.1), (0, .ref 84), (1, .ref 0), (2, .ref 42), (3, .ref 41)]) (pc := 1321) O d_L_law_1321 6 rfl (congrArg (HAdd.hAdd _) ic_5) (by decide) rfl ?_
                                                refine r_goto (pc := 1324) O d_L_law_1324 (tgt := 23) (by decide) ?_
                                                exact r_lv [3, 4, 5, 6, 0] rfl (hrec23 ((qv0 + 5), v1285.2))
                                              · refine r_aload_n (pc := 1306) O d_L_law_1306 5 rfl ?_
                                                refine r_iconst (pc := 1307) O d_L_law_1307 ic_0 ?_
                                                refine r_lald_c (x := (v1285.2.2 41 (ix 0))) (pc := 1308) O zl_o (sIn_iff.mp (by decide)) d_L_law_1308 rfl ?_
                                                refine r_iload (pc := 1309) O d_L_law_1309 0 rfl ?_
                                                refine r_i2l (pc := 1311) O d_L_law_1311 ?_
                                                refine r_lcmp (pc := 1312) O d_L_law_1312 ?_
                                                refine r_if_eq (tgt := 1318) (pc := 1313) O d_L_law_1313 (by decide) (fun q1313 => ?_) (fun q1313 => ?_)
                                                · refine r_goto (pc := 1318) O d_L_law_1318 (tgt := 1321) (by decide) ?_
                                                  refine r_iinc (lv' := [(4, .int (qv0 + 5)), (6, .int v1285.1), (5, .int v1267.1), (0, .ref 84), (1, .ref 0), (2, .ref 42), (3, .ref 41)]) (pc := 1321) O d_L_law_1321 6 rfl (congrArg (HAdd.hAdd _) ic_5) (by decide) rfl ?_
                                                  refine r_goto (pc := 1324) O d_L_law_1324 (tgt := 23) (by decide) ?_
                                                  exact r_lv [3, 4, 5, 6, 0] rfl (hrec23 ((qv0 + 5), v1285.2))
                                                · refine r_iconst (pc := 1316) O d_L_law_1316 ic_0 ?_
                                                  exact r_zret (pc := 1317) O rfl d_L_law_1317 nb_0
                                            · refine r_iconst (pc := 1299) O d_L_law_1299 ic_0 ?_
                                              exact r_zret (pc := 1300) O rfl d_L_law_1300 nb_0
                                          · refine r_tout (tgt := 1321) (pc := 39) O d_L_law_39 (by have z0 := lv_neT (a := 0) q39_0 (by decide); have z1 := lv_neT (a := 1) q39_1 (by decide); have z2 := lv_neT (a := 2) q39_2 (by decide); have z3 := lv_neT (a := 3) q39_3 (by decide); have z4 := lv_neT (a := 4) q39_4 (by decide); have z5 := lv_neT (a := 5) q39_5 (by decide); have z6 := lv_neT (a := 6) q39_6 (by decide); have z7 := lv_neT (a := 7) q39_7 (by decide); have z8 := lv_neT (a := 8) q39_8 (by decide); have z9 := lv_neT (a := 9) q39_9 (by decide); have z10 := lv_neT (a := 10) q39_10 (by decide); have z11 := lv_neT (a := 11) q39_11 (by decide); have z12 := lv_neT (a := 12) q39_12 (by decide); have z13 := lv_neT (a := 13) q39_13 (by decide); have z14 := lv_neT (a := 14) q39_14 (by decide); have z15 := lv_neT (a := 15) q39_15 (by decide); have z16 := lv_neT (a := 16) q39_16 (by decide); have z17 := lv_neT (a := 17) q39_17 (by decide); have z18 := lv_neT (a := 18) q39_18 (by decide); have z19 := lv_neT (a := 19) q39_19 (by decide); omega) (by decide) ?_
                                            refine r_iinc (lv' := [(4, .int (qv0 + 5)), (0, .ref 84), (1, .ref 0), (2, .ref 42), (3, .ref 41)]) (pc := 1321) O d_L_law_1321 4 rfl (congrArg (HAdd.hAdd _) ic_5) (by decide) rfl ?_
                                            refine r_goto (pc := 1324) O d_L_law_1324 (tgt := 23) (by decide) ?_
                                            refine r_up ?_
                                            exact r_lv [1, 2, 3, 4, 0] rfl (hrec23 ((qv0 + 5), qv1))
