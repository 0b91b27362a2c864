theorem cw_X8_366 : CWV RX8 366 yX8_newsDays cX8_newsDays 4 (some .int) 8 2 := CWV.mk ml_X8_366 wI_X8_newsDays wS_X8_newsDays wN_X8 wC_X8_newsDays (by decide +kernel) kX8 rfl (by decide)
theorem ml_X8_372 : Cond.methodLink RX8 372 yX8_newsBy ∈ GW := GW_at 1634 (by decide +kernel) (by decide +kernel)
theorem cw_X8_372 : CWV RX8 372 yX8_newsBy cX8_newsBy 5 (some .int) 8 3 := CWV.mk ml_X8_372 wI_X8_newsBy wS_X8_newsBy wN_X8 wC_X8_newsBy (by decide +kernel) kX8 rfl (by decide)
theorem ml_X8_384 : Cond.methodLink RX8 384 yX8_three ∈ GW := GW_at 1638 (by decide +kernel) (by decide +kernel)
theorem cw_X8_384 : CWV RX8 384 yX8_three cX8_three 9 (some .int) 8 4 := CWV.mk ml_X8_384 wI_X8_three wS_X8_three wN_X8 wC_X8_three (by decide +kernel) kX8 rfl (by decide)
theorem ml_X8_375 : Cond.methodLink RX8 375 yX8_isGood ∈ GW := GW_at 1642 (by decide +kernel) (by decide +kernel)
theorem cw_X8_375 : CWV RX8 375 yX8_isGood cX8_isGood 4 (some .boolean) 8 2 := CWV.mk ml_X8_375 wI_X8_isGood wS_X8_isGood wN_X8 wC_X8_isGood (by decide +kernel) kX8 rfl (by decide)
theorem ml_X8_378 : Cond.methodLink RX8 378 Lib.Math.max.name ∈ GW := GW_at 1646 (by decide +kernel) (by decide +kernel)
theorem ml_L_128 : Cond.methodLink RL 128 yX8_far ∈ GW := GW_at 1647 (by decide +kernel) (by decide +kernel)
theorem cw_L_128 : CWV RL 128 yX8_far cX8_far 4 (some .int) 8 3 := CWV.mk ml_L_128 wI_X8_far wS_X8_far wN_X8 wC_X8_far (by decide +kernel) kX8 rfl (by decide)
theorem ml_X8_413 : Cond.methodLink RX8 413 yX8_isTown ∈ GW := GW_at 1651 (by decide +kernel) (by decide +kernel)
theorem cw_X8_413 : CWV RX8 413 yX8_isTown cX8_isTown 2 (some .boolean) 8 1 := CWV.mk ml_X8_413 wI_X8_isTown wS_X8_isTown wN_X8 wC_X8_isTown (by decide +kernel) kX8 rfl (by decide)
theorem ml_X8_153 : Cond.methodLink RX8 153 yX8_isIn ∈ GW := GW_at 1655 (by decide +kernel) (by decide +kernel)
theorem cs_X8_153 : CWS RX8 153 yX8_isIn cX8_isIn 6 (some .boolean) 3 := CWS.mk ml_X8_153 wT_X8_isIn wN_X8 wC_X8_isIn (by decide +kernel) (by decide)
theorem ml_X8_416 : Cond.methodLink RX8 416 yX8_orNone ∈ GW := GW_at 1658 (by decide +kernel) (by decide +kernel)
theorem cs_X8_416 : CWS RX8 416 yX8_orNone cX8_orNone 1 (some .int) 1 := CWS.mk ml_X8_416 wT_X8_orNone wN_X8 wC_X8_orNone (by decide +kernel) (by decide)
theorem ml_L_132 : Cond.methodLink RL 132 yX8_judge ∈ GW := GW_at 1661 (by decide +kernel) (by decide +kernel)
theorem cw_L_132 : CWV RL 132 yX8_judge cX8_judge 3 (some .int) 8 2 := CWV.mk ml_L_132 wI_X8_judge wS_X8_judge wN_X8 wC_X8_judge (by decide +kernel) kX8 rfl (by decide)
theorem ml_X8_419 : Cond.methodLink RX8 419 yX8_isJudge ∈ GW := GW_at 1665 (by decide +kernel) (by decide +kernel)
theorem cw_X8_419 : CWV RX8 419 yX8_isJudge cX8_isJudge 2 (some .boolean) 8 1 := CWV.mk ml_X8_419 wI_X8_isJudge wS_X8_isJudge wN_X8 wC_X8_isJudge (by decide +kernel) kX8 rfl (by decide)
theorem ml_L_135 : Cond.methodLink RL 135 yX8_stop ∈ GW := GW_at 1670 (by decide +kernel) (by decide +kernel)
theorem cw_L_135 : CWV RL 135 yX8_stop cX8_stop 4 (some .int) 8 3 := CWV.mk ml_L_135 wI_X8_stop wS_X8_stop wN_X8 wC_X8_stop (by decide +kernel) kX8 rfl (by decide)
theorem ml_L_138 : Cond.methodLink RL 138 yX8_where ∈ GW := GW_at 1674 (by decide +kernel) (by decide +kernel)
theorem cw_L_138 : CWV RL 138 yX8_where cX8_where 3 (some .int) 8 2 := CWV.mk ml_L_138 wI_X8_where wS_X8_where wN_X8 wC_X8_where (by decide +kernel) kX8 rfl (by decide)
theorem ml_L_141 : Cond.methodLink RL 141 yX8_proof ∈ GW := GW_at 1678 (by decide +kernel) (by decide +kernel)
theorem cw_L_141 : CWV RL 141 yX8_proof cX8_proof 3 (some .int) 8 2 := CWV.mk ml_L_141 wI_X8_proof wS_X8_proof wN_X8 wC_X8_proof (by decide +kernel) kX8 rfl (by decide)
theorem ml_X8_424 : Cond.methodLink RX8 424 yX8_isCase ∈ GW := GW_at 1682 (by decide +kernel) (by decide +kernel)
theorem cw_X8_424 : CWV RX8 424 yX8_isCase cX8_isCase 2 (some .boolean) 8 1 := CWV.mk ml_X8_424 wI_X8_isCase wS_X8_isCase wN_X8 wC_X8_isCase (by decide +kernel) kX8 rfl (by decide)
theorem ml_L_144 : Cond.methodLink RL 144 yX8_said ∈ GW := GW_at 1686 (by decide +kernel) (by decide +kernel)
theorem cw_L_144 : CWV RL 144 yX8_said cX8_said 5 (some .int) 8 3 := CWV.mk ml_L_144 wI_X8_said wS_X8_said wN_X8 wC_X8_said (by decide +kernel) kX8 rfl (by decide)
theorem ml_L_147 : Cond.methodLink RL 147 yX8_met ∈ GW := GW_at 1691 (by decide +kernel) (by decide +kernel)
theorem cw_L_147 : CWV RL 147 yX8_met cX8_met 3 (some .int) 8 2 := CWV.mk ml_L_147 wI_X8_met wS_X8_met wN_X8 wC_X8_met (by decide +kernel) kX8 rfl (by decide)
theorem ml_L_150 : Cond.methodLink RL 150 yX8_guilty ∈ GW := GW_at 1695 (by decide +kernel) (by decide +kernel)
theorem cw_L_150 : CWV RL 150 yX8_guilty cX8_guilty 3 (some .int) 8 2 := CWV.mk ml_L_150 wI_X8_guilty wS_X8_guilty wN_X8 wC_X8_guilty (by decide +kernel) kX8 rfl (by decide)
theorem ml_L_153 : Cond.methodLink RL 153 yX8_news ∈ GW := GW_at 1699 (by decide +kernel) (by decide +kernel)
theorem cw_L_153 : CWV RL 153 yX8_news cX8_news 5 (some .int) 8 2 := CWV.mk ml_L_153 wI_X8_news wS_X8_news wN_X8 wC_X8_news (by decide +kernel) kX8 rfl (by decide)
theorem ml_L_156 : Cond.methodLink RL 156 yX8_start ∈ GW := GW_at 1703 (by decide +kernel) (by decide +kernel)
theorem cw_L_156 : CWV RL 156 yX8_start cX8_start 4 (some .int) 8 2 := CWV.mk ml_L_156 wI_X8_start wS_X8_start wN_X8 wC_X8_start (by decide +kernel) kX8 rfl (by decide)
theorem ml_X8_435 : Cond.methodLink RX8 435 yX8_refuse ∈ GW := GW_at 1708 (by decide +kernel) (by decide +kernel)
theorem cw_X8_435 : CWV RX8 435 yX8_refuse cX8_refuse 2 (some .int) 8 1 := CWV.mk ml_X8_435 wI_X8_refuse wS_X8_refuse wN_X8 wC_X8_refuse (by decide +kernel) kX8 rfl (by decide)
theorem ml_X8_438 : Cond.methodLink RX8 438 yX8_keep ∈ GW := GW_at 1712 (by decide +kernel) (by decide +kernel)
theorem cw_X8_438 : CWV RX8 438 yX8_keep cX8_keep 2 (none) 8 0 := CWV.mk ml_X8_438 wI_X8_keep wS_X8_keep wN_X8 wC_X8_keep (by decide +kernel) kX8 rfl (by decide)
theorem ml_X8_429 : Cond.methodLink RX8 429 yX8_pack ∈ GW := GW_at 1716 (by decide +kernel) (by decide +kernel)
theorem cw_X8_429 : CWV RX8 429 yX8_pack cX8_pack 5 (none) 8 2 := CWV.mk ml_X8_429 wI_X8_pack wS_X8_pack wN_X8 wC_X8_pack (by decide +kernel) kX8 rfl (by decide)
theorem ml_L_160 : Cond.methodLink RL 160 yX8_inn ∈ GW := GW_at 1720 (by decide +kernel) (by decide +kernel)
theorem cw_L_160 : CWV RL 160 yX8_inn cX8_inn 3 (some .boolean) 8 2 := CWV.mk ml_L_160 wI_X8_inn wS_X8_inn wN_X8 wC_X8_inn (by decide +kernel) kX8 rfl (by decide)
theorem ml_L_163 : Cond.methodLink RL 163 yX8_word ∈ GW := GW_at 1724 (by decide +kernel) (by decide +kernel)
theorem cw_L_163 : CWV RL 163 yX8_word cX8_word 4 (some .int) 8 3 := CWV.mk ml_L_163 wI_X8_word wS_X8_word wN_X8 wC_X8_word (by decide +kernel) kX8 rfl (by decide)
theorem ml_X8_443 : Cond.methodLink RX8 443 yX8_putRow ∈ GW := GW_at 1729 (by decide +kernel) (by decide +kernel)
theorem cs_X8_443 : CWS RX8 443 yX8_putRow cX8_putRow 5 (none) 5 := CWS.mk ml_X8_443 wT_X8_putRow wN_X8 wC_X8_putRow (by decide +kernel) (by decide)
theorem ml_L_166 : Cond.methodLink RL 166 yX8_feast ∈ GW := GW_at 1732 (by decide +kernel) (by decide +kernel)
theorem cw_L_166 : CWV RL 166 yX8_feast cX8_feast 4 (some .int) 8 3 := CWV.mk ml_L_166 wI_X8_feast wS_X8_feast wN_X8 wC_X8_feast (by decide +kernel) kX8 rfl (by decide)
theorem ml_L_169 : Cond.methodLink RL 169 yX8_flood ∈ GW := GW_at 1736 (by decide +kernel) (by decide +kernel)
theorem cw_L_169 : CWV RL 169 yX8_flood cX8_flood 4 (some .int) 8 3 := CWV.mk ml_L_169 wI_X8_flood wS_X8_flood wN_X8 wC_X8_flood (by decide +kernel) kX8 rfl (by decide)
theorem ml_L_173 : Cond.methodLink RL 173 yX8_undo ∈ GW := GW_at 1741 (by decide +kernel) (by decide +kernel)
theorem cw_L_173 : CWV RL 173 yX8_undo cX8_undo 1 (some .int) 8 0 := CWV.mk ml_L_173 wI_X8_undo wS_X8_undo wN_X8 wC_X8_undo (by decide +kernel) kX8 rfl (by decide)
theorem ml_X8_449 : Cond.methodLink RX8 449 yX8_unpack ∈ GW := GW_at 1745 (by decide +kernel) (by decide +kernel)
theorem cw_X8_449 : CWV RX8 449 yX8_unpack cX8_unpack 5 (none) 8 2 := CWV.mk ml_X8_449 wI_X8_unpack wS_X8_unpack wN_X8 wC_X8_unpack (by decide +kernel) kX8 rfl (by decide)
theorem ml_L_176 : Cond.methodLink RL 176 yX8_burn ∈ GW := GW_at 1749 (by decide +kernel) (by decide +kernel)
theorem cw_L_176 : CWV RL 176 yX8_burn cX8_burn 6 (some .int) 8 1 := CWV.mk ml_L_176 wI_X8_burn wS_X8_burn wN_X8 wC_X8_burn (by decide +kernel) kX8 rfl (by decide)
theorem ml_L_179 : Cond.methodLink RL 179 yX8_when ∈ GW := GW_at 1753 (by decide +kernel) (by decide +kernel)
theorem cw_L_179 : CWV RL 179 yX8_when cX8_when 8 (some .int) 8 2 := CWV.mk ml_L_179 wI_X8_when wS_X8_when wN_X8 wC_X8_when (by decide +kernel) kX8 rfl (by decide)
theorem ml_L_182 : Cond.methodLink RL 182 yX8_round ∈ GW := GW_at 1757 (by decide +kernel) (by decide +kernel)
theorem cw_L_182 : CWV RL 182 yX8_round cX8_round 3 (some .int) 8 1 := CWV.mk ml_L_182 wI_X8_round wS_X8_round wN_X8 wC_X8_round (by decide +kernel) kX8 rfl (by decide)
theorem ml_L_185 : Cond.methodLink RL 185 yX8_free ∈ GW := GW_at 1761 (by decide +kernel) (by decide +kernel)
theorem cw_L_185 : CWV RL 185 yX8_free cX8_free 5 (some .int) 8 2 := CWV.mk ml_L_185 wI_X8_free wS_X8_free wN_X8 wC_X8_free (by decide +kernel) kX8 rfl (by decide)
theorem ml_L_188 : Cond.methodLink RL 188 yX8_mercy ∈ GW := GW_at 1765 (by decide +kernel) (by decide +kernel)
theorem cw_L_188 : CWV RL 188 yX8_mercy cX8_mercy 4 (some .int) 8 1 := CWV.mk ml_L_188 wI_X8_mercy wS_X8_mercy wN_X8 wC_X8_mercy (by decide +kernel) kX8 rfl (by decide)
theorem ml_X8_452 : Cond.methodLink RX8 452 yX8_bitsOf ∈ GW := GW_at 1769 (by decide +kernel) (by decide +kernel)
theorem cs_X8_452 : CWS RX8 452 yX8_bitsOf cX8_bitsOf 3 (some .int) 1 := CWS.mk ml_X8_452 wT_X8_bitsOf wN_X8 wC_X8_bitsOf (by decide +kernel) (by decide)
theorem ml_L_191 : Cond.methodLink RL 191 yX8_deaf ∈ GW := GW_at 1772 (by decide +kernel) (by decide +kernel)
theorem cw_L_191 : CWV RL 191 yX8_deaf cX8_deaf 2 (some .int) 8 1 := CWV.mk ml_L_191 wI_X8_deaf wS_X8_deaf wN_X8 wC_X8_deaf (by decide +kernel) kX8 rfl (by decide)
theorem ml_L_194 : Cond.methodLink RL 194 yX8_soonest ∈ GW := GW_at 1776 (by decide +kernel) (by decide +kernel)
theorem cw_L_194 : CWV RL 194 yX8_soonest cX8_soonest 5 (some .int) 8 1 := CWV.mk ml_L_194 wI_X8_soonest wS_X8_soonest wN_X8 wC_X8_soonest (by decide +kernel) kX8 rfl (by decide)
theorem ml_L_198 : Cond.methodLink RL 198 yX8_see ∈ GW := GW_at 1780 (by decide +kernel) (by decide +kernel)
theorem cw_L_198 : CWV RL 198 yX8_see cX8_see 4 (some .int) 8 3 := CWV.mk ml_L_198 wI_X8_see wS_X8_see wN_X8 wC_X8_see (by decide +kernel) kX8 rfl (by decide)
theorem ml_L_202 : Cond.methodLink RL 202 yX8_forget ∈ GW := GW_at 1784 (by decide +kernel) (by decide +kernel)
theorem cw_L_202 : CWV RL 202 yX8_forget cX8_forget 1 (some .int) 8 0 := CWV.mk ml_L_202 wI_X8_forget wS_X8_forget wN_X8 wC_X8_forget (by decide +kernel) kX8 rfl (by decide)
theorem ml_L_205 : Cond.methodLink RL 205 yX8_sent ∈ GW := GW_at 1788 (by decide +kernel) (by decide +kernel)
theorem cw_L_205 : CWV RL 205 yX8_sent cX8_sent 6 (some .int) 8 2 := CWV.mk ml_L_205 wI_X8_sent wS_X8_sent wN_X8 wC_X8_sent (by decide +kernel) kX8 rfl (by decide)
theorem ml_X8_457 : Cond.methodLink RX8 457 yX8_isAsSeen ∈ GW := GW_at 1793 (by decide +kernel) (by decide +kernel)
theorem cw_X8_457 : CWV RX8 457 yX8_isAsSeen cX8_isAsSeen 2 (some .boolean) 8 0 := CWV.mk ml_X8_457 wI_X8_isAsSeen wS_X8_isAsSeen wN_X8 wC_X8_isAsSeen (by decide +kernel) kX8 rfl (by decide)
theorem ml_L_208 : Cond.methodLink RL 208 yX8_game ∈ GW := GW_at 1797 (by decide +kernel) (by decide +kernel)
theorem cw_L_208 : CWV RL 208 yX8_game cX8_game 10 (some .int) 8 2 := CWV.mk ml_L_208 wI_X8_game wS_X8_game wN_X8 wC_X8_game (by decide +kernel) kX8 rfl (by decide)
theorem ml_X8_461 : Cond.methodLink RX8 461 yX8_isGuiltyBy ∈ GW := GW_at 1801 (by decide +kernel) (by decide +kernel)
theorem cw_X8_461 : CWV RX8 461 yX8_isGuiltyBy cX8_isGuiltyBy 5 (some .boolean) 8 3 := CWV.mk ml_X8_461 wI_X8_isGuiltyBy wS_X8_isGuiltyBy wN_X8 wC_X8_isGuiltyBy (by decide +kernel) kX8 rfl (by decide)
theorem ml_L_211 : Cond.methodLink RL 211 yX8_season ∈ GW := GW_at 1805 (by decide +kernel) (by decide +kernel)
theorem cw_L_211 : CWV RL 211 yX8_season cX8_season 12 (some .int) 8 3 := CWV.mk ml_L_211 wI_X8_season wS_X8_season wN_X8 wC_X8_season (by decide +kernel) kX8 rfl (by decide)
theorem ml_X8_470 : Cond.methodLink RX8 470 yX8_drawOf ∈ GW := GW_at 1810 (by decide +kernel) (by decide +kernel)
theorem cw_X8_470 : CWV RX8 470 yX8_drawOf cX8_drawOf 2 (some .int) 8 1 := CWV.mk ml_X8_470 wI_X8_drawOf wS_X8_drawOf wN_X8 wC_X8_drawOf (by decide +kernel) kX8 rfl (by decide)
theorem ml_L_215 : Cond.methodLink RL 215 yX8_image ∈ GW := GW_at 1815 (by decide +kernel) (by decide +kernel)
theorem cw_L_215 : CWV RL 215 yX8_image cX8_image 1 (none) 8 0 := CWV.mk ml_L_215 wI_X8_image wS_X8_image wN_X8 wC_X8_image (by decide +kernel) kX8 rfl (by decide)
theorem ml_X8_479 : Cond.methodLink RX8 479 yX8_be ∈ GW := GW_at 1819 (by decide +kernel) (by decide +kernel)
theorem cs_X8_479 : CWS RX8 479 yX8_be cX8_be 3 (none) 2 := CWS.mk ml_X8_479 wT_X8_be wN_X8 wC_X8_be (by decide +kernel) (by decide)
theorem ml_L_220 : Cond.methodLink RL 220 yX8_restore ∈ GW := GW_at 1822 (by decide +kernel) (by decide +kernel)
theorem cw_L_220 : CWV RL 220 yX8_restore cX8_restore 1 (some .boolean) 8 0 := CWV.mk ml_L_220 wI_X8_restore wS_X8_restore wN_X8 wC_X8_restore (by decide +kernel) kX8 rfl (by decide)
theorem fl_X4_9 : FLk RX4 9 4 0 := ⟨_, _, _, _, clX4, by decide, GW_at 149 (by decide +kernel) (by decide +kernel), by decide, by decide, fun h => absurd h (by decide)⟩
theorem fl_X4_21 : FLk RX4 21 4 1 := ⟨_, _, _, _, clX4, by decide, GW_at 150 (by decide +kernel) (by decide +kernel), by decide, by decide, fun h => absurd h (by decide)⟩
theorem fl_X4_15 : FLk RX4 15 4 2 := ⟨_, _, _, _, clX4, by decide, GW_at 151 (by decide +kernel) (by decide +kernel), by decide, by decide, fun h => absurd h (by decide)⟩
theorem fl_X4_18 : FLk RX4 18 4 3 := ⟨_, _, _, _, clX4, by decide, GW_at 152 (by decide +kernel) (by decide +kernel), by decide, by decide, fun h => absurd h (by decide)⟩
theorem fl_X3_48 : FLk RX3 48 3 0 := ⟨_, _, _, _, clX3, by decide, GW_at 164 (by decide +kernel) (by decide +kernel), by decide, by decide, fun h => absurd h (by decide)⟩
theorem fl_X5_101 : FLk RX5 101 3 0 := ⟨_, _, _, _, clX3, by decide, GW_at 165 (by decide +kernel) (by decide +kernel), by decide, by decide, fun h => absurd h (by decide)⟩
theorem fl_X7_97 : FLk RX7 97 3 0 := ⟨_, _, _, _, clX3, by decide, GW_at 166 (by decide +kernel) (by decide +kernel), by decide, by decide, fun h => absurd h (by decide)⟩
theorem fl_X3_52 : FLk RX3 52 3 1 := ⟨_, _, _, _, clX3, by decide, GW_at 167 (by decide +kernel) (by decide +kernel), by decide, by decide, fun h => absurd h (by decide)⟩
theorem fl_X0_50 : FLk RX0 50 3 1 := ⟨_, _, _, _, clX3, by decide, GW_at 168 (by decide +kernel) (by decide +kernel), by decide, by decide, fun h => absurd h (by decide)⟩
theorem fl_X5_106 : FLk RX5 106 3 1 := ⟨_, _, _, _, clX3, by decide, GW_at 169 (by decide +kernel) (by decide +kernel), by decide, by decide, fun h => absurd h (by decide)⟩
theorem fl_X3_55 : FLk RX3 55 3 2 := ⟨_, _, _, _, clX3, by decide, GW_at 170 (by decide +kernel) (by decide +kernel), by decide, by decide, fun h => absurd h (by decide)⟩
theorem fl_X5_109 : FLk RX5 109 3 2 := ⟨_, _, _, _, clX3, by decide, GW_at 171 (by decide +kernel) (by decide +kernel), by decide, by decide, fun h => absurd h (by decide)⟩
theorem fl_X7_100 : FLk RX7 100 3 2 := ⟨_, _, _, _, clX3, by decide, GW_at 172 (by decide +kernel) (by decide +kernel), by decide, by decide, fun h => absurd h (by decide)⟩
theorem fl_X3_58 : FLk RX3 58 3 3 := ⟨_, _, _, _, clX3, by decide, GW_at 173 (by decide +kernel) (by decide +kernel), by decide, by decide, fun h => absurd h (by decide)⟩
theorem fl_X5_126 : FLk RX5 126 3 3 := ⟨_, _, _, _, clX3, by decide, GW_at 174 (by decide +kernel) (by decide +kernel), by decide, by decide, fun h => absurd h (by decide)⟩
theorem fl_X3_11 : FLk RX3 11 3 4 := ⟨_, _, _, _, clX3, by decide, GW_at 175 (by decide +kernel) (by decide +kernel), by decide, by decide, fun h => absurd h (by decide)⟩
theorem fl_X1_79 : FLk RX1 79 3 4 := ⟨_, _, _, _, clX3, by decide, GW_at 176 (by decide +kernel) (by decide +kernel), by decide, by decide, fun h => absurd h (by decide)⟩
theorem fl_X5_123 : FLk RX5 123 3 4 := ⟨_, _, _, _, clX3, by decide, GW_at 177 (by decide +kernel) (by decide +kernel), by decide, by decide, fun h => absurd h (by decide)⟩
theorem fl_X3_16 : FLk RX3 16 3 5 := ⟨_, _, _, _, clX3, by decide, GW_at 178 (by decide +kernel) (by decide +kernel), by decide, by decide, fun h => absurd h (by decide)⟩
theorem fl_X7_156 : FLk RX7 156 3 5 := ⟨_, _, _, _, clX3, by decide, GW_at 179 (by decide +kernel) (by decide +kernel), by decide, by decide, fun h => absurd h (by decide)⟩
theorem fl_X1_198 : FLk RX1 198 3 5 := ⟨_, _, _, _, clX3, by decide, GW_at 180 (by decide +kernel) (by decide +kernel), by decide, by decide, fun h => absurd h (by decide)⟩
theorem fl_X3_19 : FLk RX3 19 3 6 := ⟨_, _, _, _, clX3, by decide, GW_at 181 (by decide +kernel) (by decide +kernel), by decide, by decide, fun h => absurd h (by decide)⟩
theorem fl_X7_160 : FLk RX7 160 3 6 := ⟨_, _, _, _, clX3, by decide, GW_at 182 (by decide +kernel) (by decide +kernel), by decide, by decide, fun h => absurd h (by decide)⟩
theorem fl_X1_169 : FLk RX1 169 3 6 := ⟨_, _, _, _, clX3, by decide, GW_at 183 (by decide +kernel) (by decide +kernel), by decide, by decide, fun h => absurd h (by decide)⟩
theorem fl_X3_61 : FLk RX3 61 3 7 := ⟨_, _, _, _, clX3, by decide, GW_at 184 (by decide +kernel) (by decide +kernel), by decide, by decide, fun h => absurd h (by decide)⟩
theorem fl_X1_56 : FLk RX1 56 3 7 := ⟨_, _, _, _, clX3, by decide, GW_at 185 (by decide +kernel) (by decide +kernel), by decide, by decide, fun h => absurd h (by decide)⟩
theorem fl_X7_107 : FLk RX7 107 3 7 := ⟨_, _, _, _, clX3, by decide, GW_at 186 (by decide +kernel) (by decide +kernel), by decide, by decide, fun h => absurd h (by decide)⟩
theorem fl_X5_128 : FLk RX5 128 3 7 := ⟨_, _, _, _, clX3, by decide, GW_at 187 (by decide +kernel) (by decide +kernel), by decide, by decide, fun h => absurd h (by decide)⟩
theorem fl_X3_22 : FLk RX3 22 3 8 := ⟨_, _, _, _, clX3, by decide, GW_at 188 (by decide +kernel) (by decide +kernel), by decide, by decide, fun h => absurd h (by decide)⟩
theorem fl_X1_70 : FLk RX1 70 3 8 := ⟨_, _, _, _, clX3, by decide, GW_at 189 (by decide +kernel) (by decide +kernel), by decide, by decide, fun h => absurd h (by decide)⟩
theorem fl_X5_131 : FLk RX5 131 3 8 := ⟨_, _, _, _, clX3, by decide, GW_at 190 (by decide +kernel) (by decide +kernel), by decide, by decide, fun h => absurd h (by decide)⟩
theorem fl_X7_166 : FLk RX7 166 3 8 := ⟨_, _, _, _, clX3, by decide, GW_at 191 (by decide +kernel) (by decide +kernel), by decide, by decide, fun h => absurd h (by decide)⟩
theorem fl_X3_26 : FLk RX3 26 3 9 := ⟨_, _, _, _, clX3, by decide, GW_at 192 (by decide +kernel) (by decide +kernel), by decide, by decide, fun h => absurd h (by decide)⟩
theorem fl_X0_39 : FLk RX0 39 3 9 := ⟨_, _, _, _, clX3, by decide, GW_at 193 (by decide +kernel) (by decide +kernel), by decide, by decide, fun h => absurd h (by decide)⟩
theorem fl_X5_134 : FLk RX5 134 3 9 := ⟨_, _, _, _, clX3, by decide, GW_at 194 (by decide +kernel) (by decide +kernel), by decide, by decide, fun h => absurd h (by decide)⟩
theorem fl_X3_29 : FLk RX3 29 3 10 := ⟨_, _, _, _, clX3, by decide, GW_at 195 (by decide +kernel) (by decide +kernel), by decide, by decide, fun h => absurd h (by decide)⟩
theorem fl_X5_137 : FLk RX5 137 3 10 := ⟨_, _, _, _, clX3, by decide, GW_at 196 (by decide +kernel) (by decide +kernel), by decide, by decide, fun h => absurd h (by decide)⟩
theorem fl_X7_172 : FLk RX7 172 3 10 := ⟨_, _, _, _, clX3, by decide, GW_at 197 (by decide +kernel) (by decide +kernel), by decide, by decide, fun h => absurd h (by decide)⟩
theorem fl_X1_131 : FLk RX1 131 3 10 := ⟨_, _, _, _, clX3, by decide, GW_at 198 (by decide +kernel) (by decide +kernel), by decide, by decide, fun h => absurd h (by decide)⟩
theorem fl_X3_32 : FLk RX3 32 3 11 := ⟨_, _, _, _, clX3, by decide, GW_at 199 (by decide +kernel) (by decide +kernel), by decide, by decide, fun h => absurd h (by decide)⟩
theorem fl_X1_73 : FLk RX1 73 3 11 := ⟨_, _, _, _, clX3, by decide, GW_at 200 (by decide +kernel) (by decide +kernel), by decide, by decide, fun h => absurd h (by decide)⟩
theorem fl_X5_147 : FLk RX5 147 3 11 := ⟨_, _, _, _, clX3, by decide, GW_at 201 (by decide +kernel) (by decide +kernel), by decide, by decide, fun h => absurd h (by decide)⟩
theorem fl_X7_175 : FLk RX7 175 3 11 := ⟨_, _, _, _, clX3, by decide, GW_at 202 (by decide +kernel) (by decide +kernel), by decide, by decide, fun h => absurd h (by decide)⟩
theorem fl_X3_35 : FLk RX3 35 3 12 := ⟨_, _, _, _, clX3, by decide, GW_at 203 (by decide +kernel) (by decide +kernel), by decide, by decide, fun h => absurd h (by decide)⟩
theorem fl_X1_76 : FLk RX1 76 3 12 := ⟨_, _, _, _, clX3, by decide, GW_at 204 (by decide +kernel) (by decide +kernel), by decide, by decide, fun h => absurd h (by decide)⟩
theorem fl_X5_144 : FLk RX5 144 3 12 := ⟨_, _, _, _, clX3, by decide, GW_at 205 (by decide +kernel) (by decide +kernel), by decide, by decide, fun h => absurd h (by decide)⟩
theorem fl_X7_184 : FLk RX7 184 3 12 := ⟨_, _, _, _, clX3, by decide, GW_at 206 (by decide +kernel) (by decide +kernel), by decide, by decide, fun h => absurd h (by decide)⟩
theorem fl_X3_64 : FLk RX3 64 3 13 := ⟨_, _, _, _, clX3, by decide, GW_at 207 (by decide +kernel) (by decide +kernel), by decide, by decide, fun h => absurd h (by decide)⟩
theorem fl_X7_110 : FLk RX7 110 3 13 := ⟨_, _, _, _, clX3, by decide, GW_at 208 (by decide +kernel) (by decide +kernel), by decide, by decide, fun h => absurd h (by decide)⟩
theorem fl_X1_95 : FLk RX1 95 3 13 := ⟨_, _, _, _, clX3, by decide, GW_at 209 (by decide +kernel) (by decide +kernel), by decide, by decide, fun h => absurd h (by decide)⟩
theorem fl_X5_150 : FLk RX5 150 3 13 := ⟨_, _, _, _, clX3, by decide, GW_at 210 (by decide +kernel) (by decide +kernel), by decide, by decide, fun h => absurd h (by decide)⟩
theorem fl_X3_38 : FLk RX3 38 3 14 := ⟨_, _, _, _, clX3, by decide, GW_at 211 (by decide +kernel) (by decide +kernel), by decide, by decide, fun h => absurd h (by decide)⟩
theorem fl_X1_120 : FLk RX1 120 3 14 := ⟨_, _, _, _, clX3, by decide, GW_at 212 (by decide +kernel) (by decide +kernel), by decide, by decide, fun h => absurd h (by decide)⟩
theorem fl_X5_157 : FLk RX5 157 3 14 := ⟨_, _, _, _, clX3, by decide, GW_at 213 (by decide +kernel) (by decide +kernel), by decide, by decide, fun h => absurd h (by decide)⟩
theorem fl_X7_197 : FLk RX7 197 3 14 := ⟨_, _, _, _, clX3, by decide, GW_at 214 (by decide +kernel) (by decide +kernel), by decide, by decide, fun h => absurd h (by decide)⟩
theorem fl_X3_44 : FLk RX3 44 3 15 := ⟨_, _, _, _, clX3, by decide, GW_at 215 (by decide +kernel) (by decide +kernel), by decide, by decide, fun h => absurd h (by decide)⟩
theorem fl_X1_127 : FLk RX1 127 3 15 := ⟨_, _, _, _, clX3, by decide, GW_at 216 (by decide +kernel) (by decide +kernel), by decide, by decide, fun h => absurd h (by decide)⟩
theorem fl_X5_160 : FLk RX5 160 3 15 := ⟨_, _, _, _, clX3, by decide, GW_at 217 (by decide +kernel) (by decide +kernel), by decide, by decide, fun h => absurd h (by decide)⟩
theorem fl_X5_37 : FLk RX5 37 5 0 := ⟨_, _, _, _, clX5, by decide, GW_at 257 (by decide +kernel) (by decide +kernel), by decide, by decide, fun h => absurd h (by decide)⟩
theorem fl_X7_79 : FLk RX7 79 5 0 := ⟨_, _, _, _, clX5, by decide, GW_at 258 (by decide +kernel) (by decide +kernel), by decide, by decide, fun h => absurd h (by decide)⟩
theorem fl_X5_9 : FLk RX5 9 5 1 := ⟨_, _, _, _, clX5, by decide, GW_at 259 (by decide +kernel) (by decide +kernel), by decide, by decide, fun h => absurd h (by decide)⟩
theorem fl_X7_76 : FLk RX7 76 5 1 := ⟨_, _, _, _, clX5, by decide, GW_at 260 (by decide +kernel) (by decide +kernel), by decide, by decide, fun h => absurd h (by decide)⟩
theorem fl_X5_15 : FLk RX5 15 5 2 := ⟨_, _, _, _, clX5, by decide, GW_at 261 (by decide +kernel) (by decide +kernel), by decide, by decide, fun h => absurd h (by decide)⟩
theorem fl_X5_29 : FLk RX5 29 5 3 := ⟨_, _, _, _, clX5, by decide, GW_at 262 (by decide +kernel) (by decide +kernel), by decide, by decide, fun h => absurd h (by decide)⟩
theorem fl_X5_19 : FLk RX5 19 5 4 := ⟨_, _, _, _, clX5, by decide, GW_at 263 (by decide +kernel) (by decide +kernel), by decide, by decide, fun h => ⟨⟨_, rfl⟩, rfl⟩⟩
theorem fl_X5_46 : FLk RX5 46 5 5 := ⟨_, _, _, _, clX5, by decide, GW_at 264 (by decide +kernel) (by decide +kernel), by decide, by decide, fun h => absurd h (by decide)⟩
theorem fl_X5_216 : FLk RX5 216 5 6 := ⟨_, _, _, _, clX5, by decide, GW_at 265 (by decide +kernel) (by decide +kernel), by decide, by decide, fun h => absurd h (by decide)⟩
theorem fl_X5_40 : FLk RX5 40 5 7 := ⟨_, _, _, _, clX5, by decide, GW_at 266 (by decide +kernel) (by decide +kernel), by decide, by decide, fun h => absurd h (by decide)⟩
theorem fl_X6_13 : FLk RX6 13 6 0 := ⟨_, _, _, _, clX6, by decide, GW_at 299 (by decide +kernel) (by decide +kernel), by decide, by decide, fun h => absurd h (by decide)⟩
theorem fl_X0_68 : FLk RX0 68 6 0 := ⟨_, _, _, _, clX6, by decide, GW_at 300 (by decide +kernel) (by decide +kernel), by decide, by decide, fun h => absurd h (by decide)⟩
theorem fl_X1_149 : FLk RX1 149 6 0 := ⟨_, _, _, _, clX6, by decide, GW_at 301 (by decide +kernel) (by decide +kernel), by decide, by decide, fun h => absurd h (by decide)⟩
theorem fl_X6_19 : FLk RX6 19 6 1 := ⟨_, _, _, _, clX6, by decide, GW_at 302 (by decide +kernel) (by decide +kernel), by decide, by decide, fun h => absurd h (by decide)⟩
theorem fl_X0_65 : FLk RX0 65 6 1 := ⟨_, _, _, _, clX6, by decide, GW_at 303 (by decide +kernel) (by decide +kernel), by decide, by decide, fun h => absurd h (by decide)⟩
theorem fl_X1_152 : FLk RX1 152 6 1 := ⟨_, _, _, _, clX6, by decide, GW_at 304 (by decide +kernel) (by decide +kernel), by decide, by decide, fun h => absurd h (by decide)⟩
theorem fl_X6_22 : FLk RX6 22 6 2 := ⟨_, _, _, _, clX6, by decide, GW_at 305 (by decide +kernel) (by decide +kernel), by decide, by decide, fun h => absurd h (by decide)⟩
theorem fl_X0_71 : FLk RX0 71 6 2 := ⟨_, _, _, _, clX6, by decide, GW_at 306 (by decide +kernel) (by decide +kernel), by decide, by decide, fun h => absurd h (by decide)⟩
theorem fl_X1_155 : FLk RX1 155 6 2 := ⟨_, _, _, _, clX6, by decide, GW_at 307 (by decide +kernel) (by decide +kernel), by decide, by decide, fun h => absurd h (by decide)⟩
theorem fl_X6_25 : FLk RX6 25 6 3 := ⟨_, _, _, _, clX6, by decide, GW_at 308 (by decide +kernel) (by decide +kernel), by decide, by decide, fun h => absurd h (by decide)⟩
theorem fl_X0_55 : FLk RX0 55 6 3 := ⟨_, _, _, _, clX6, by decide, GW_at 309 (by decide +kernel) (by decide +kernel), by decide, by decide, fun h => absurd h (by decide)⟩
theorem fl_X7_120 : FLk RX7 120 6 3 := ⟨_, _, _, _, clX6, by decide, GW_at 310 (by decide +kernel) (by decide +kernel), by decide, by decide, fun h => absurd h (by decide)⟩
theorem fl_X1_144 : FLk RX1 144 6 3 := ⟨_, _, _, _, clX6, by decide, GW_at 311 (by decide +kernel) (by decide +kernel), by decide, by decide, fun h => absurd h (by decide)⟩
theorem fl_X0_9 : FLk RX0 9 0 0 := ⟨_, _, _, _, clX0, by decide, GW_at 321 (by decide +kernel) (by decide +kernel), by decide, by decide, fun h => absurd h (by decide)⟩
theorem fl_X1_61 : FLk RX1 61 0 0 := ⟨_, _, _, _, clX0, by decide, GW_at 322 (by decide +kernel) (by decide +kernel), by decide, by decide, fun h => absurd h (by decide)⟩
theorem fl_X7_169 : FLk RX7 169 0 0 := ⟨_, _, _, _, clX0, by decide, GW_at 323 (by decide +kernel) (by decide +kernel), by decide, by decide, fun h => absurd h (by decide)⟩
theorem fl_X0_54 : FLk RX0 54 0 1 := ⟨_, _, _, _, clX0, by decide, GW_at 324 (by decide +kernel) (by decide +kernel), by decide, by decide, fun h => absurd h (by decide)⟩
theorem fl_X1_85 : FLk RX1 85 0 1 := ⟨_, _, _, _, clX0, by decide, GW_at 325 (by decide +kernel) (by decide +kernel), by decide, by decide, fun h => absurd h (by decide)⟩
theorem fl_X7_113 : FLk RX7 113 0 1 := ⟨_, _, _, _, clX0, by decide, GW_at 326 (by decide +kernel) (by decide +kernel), by decide, by decide, fun h => absurd h (by decide)⟩
theorem fl_X0_20 : FLk RX0 20 0 2 := ⟨_, _, _, _, clX0, by decide, GW_at 327 (by decide +kernel) (by decide +kernel), by decide, by decide, fun h => absurd h (by decide)⟩
theorem fl_X7_116 : FLk RX7 116 0 2 := ⟨_, _, _, _, clX0, by decide, GW_at 328 (by decide +kernel) (by decide +kernel), by decide, by decide, fun h => absurd h (by decide)⟩
theorem fl_X1_162 : FLk RX1 162 0 2 := ⟨_, _, _, _, clX0, by decide, GW_at 329 (by decide +kernel) (by decide +kernel), by decide, by decide, fun h => absurd h (by decide)⟩
theorem fl_X0_24 : FLk RX0 24 0 3 := ⟨_, _, _, _, clX0, by decide, GW_at 330 (by decide +kernel) (by decide +kernel), by decide, by decide, fun h => absurd h (by decide)⟩
theorem fl_X7_125 : FLk RX7 125 0 3 := ⟨_, _, _, _, clX0, by decide, GW_at 331 (by decide +kernel) (by decide +kernel), by decide, by decide, fun h => absurd h (by decide)⟩
theorem fl_X1_140 : FLk RX1 140 0 3 := ⟨_, _, _, _, clX0, by decide, GW_at 332 (by decide +kernel) (by decide +kernel), by decide, by decide, fun h => absurd h (by decide)⟩
theorem fl_X0_27 : FLk RX0 27 0 4 := ⟨_, _, _, _, clX0, by decide, GW_at 333 (by decide +kernel) (by decide +kernel), by decide, by decide, fun h => absurd h (by decide)⟩
theorem fl_X7_128 : FLk RX7 128 0 4 := ⟨_, _, _, _, clX0, by decide, GW_at 334 (by decide +kernel) (by decide +kernel), by decide, by decide, fun h => absurd h (by decide)⟩
theorem fl_X1_189 : FLk RX1 189 0 4 := ⟨_, _, _, _, clX0, by decide, GW_at 335 (by decide +kernel) (by decide +kernel), by decide, by decide, fun h => absurd h (by decide)⟩
theorem fl_X0_30 : FLk RX0 30 0 5 := ⟨_, _, _, _, clX0, by decide, GW_at 336 (by decide +kernel) (by decide +kernel), by decide, by decide, fun h => absurd h (by decide)⟩
theorem fl_X7_138 : FLk RX7 138 0 5 := ⟨_, _, _, _, clX0, by decide, GW_at 337 (by decide +kernel) (by decide +kernel), by decide, by decide, fun h => absurd h (by decide)⟩
theorem fl_X0_33 : FLk RX0 33 0 6 := ⟨_, _, _, _, clX0, by decide, GW_at 338 (by decide +kernel) (by decide +kernel), by decide, by decide, fun h => absurd h (by decide)⟩
theorem fl_X7_141 : FLk RX7 141 0 6 := ⟨_, _, _, _, clX0, by decide, GW_at 339 (by decide +kernel) (by decide +kernel), by decide, by decide, fun h => absurd h (by decide)⟩
theorem fl_X1_218 : FLk RX1 218 0 6 := ⟨_, _, _, _, clX0, by decide, GW_at 340 (by decide +kernel) (by decide +kernel), by decide, by decide, fun h => absurd h (by decide)⟩
theorem fl_X0_36 : FLk RX0 36 0 7 := ⟨_, _, _, _, clX0, by decide, GW_at 341 (by decide +kernel) (by decide +kernel), by decide, by decide, fun h => absurd h (by decide)⟩
theorem fl_X7_82 : FLk RX7 82 0 7 := ⟨_, _, _, _, clX0, by decide, GW_at 342 (by decide +kernel) (by decide +kernel), by decide, by decide, fun h => absurd h (by decide)⟩
theorem fl_X1_44 : FLk RX1 44 1 0 := ⟨_, _, _, _, clX1, by decide, GW_at 367 (by decide +kernel) (by decide +kernel), by decide, by decide, fun h => ⟨⟨_, rfl⟩, rfl⟩⟩
theorem fl_X1_48 : FLk RX1 48 1 1 := ⟨_, _, _, _, clX1, by decide, GW_at 368 (by decide +kernel) (by decide +kernel), by decide, by decide, fun h => ⟨⟨_, rfl⟩, rfl⟩⟩
theorem fl_X1_52 : FLk RX1 52 1 2 := ⟨_, _, _, _, clX1, by decide, GW_at 369 (by decide +kernel) (by decide +kernel), by decide, by decide, fun h => absurd h (by decide)⟩
theorem fl_X7_270 : FLk RX7 270 1 2 := ⟨_, _, _, _, clX1, by decide, GW_at 370 (by decide +kernel) (by decide +kernel), by decide, by decide, fun h => absurd h (by decide)⟩
theorem fl_X1_11 : FLk RX1 11 1 3 := ⟨_, _, _, _, clX1, by decide, GW_at 371 (by decide +kernel) (by decide +kernel), by decide, by decide, fun h => absurd h (by decide)⟩
theorem fl_X1_16 : FLk RX1 16 1 4 := ⟨_, _, _, _, clX1, by decide, GW_at 372 (by decide +kernel) (by decide +kernel), by decide, by decide, fun h => absurd h (by decide)⟩
theorem fl_X7_187 : FLk RX7 187 1 4 := ⟨_, _, _, _, clX1, by decide, GW_at 373 (by decide +kernel) (by decide +kernel), by decide, by decide, fun h => absurd h (by decide)⟩
theorem fl_X1_19 : FLk RX1 19 1 5 := ⟨_, _, _, _, clX1, by decide, GW_at 374 (by decide +kernel) (by decide +kernel), by decide, by decide, fun h => absurd h (by decide)⟩
theorem fl_X7_203 : FLk RX7 203 1 5 := ⟨_, _, _, _, clX1, by decide, GW_at 375 (by decide +kernel) (by decide +kernel), by decide, by decide, fun h => absurd h (by decide)⟩
theorem fl_X1_22 : FLk RX1 22 1 6 := ⟨_, _, _, _, clX1, by decide, GW_at 376 (by decide +kernel) (by decide +kernel), by decide, by decide, fun h => absurd h (by decide)⟩
theorem fl_X7_206 : FLk RX7 206 1 6 := ⟨_, _, _, _, clX1, by decide, GW_at 377 (by decide +kernel) (by decide +kernel), by decide, by decide, fun h => absurd h (by decide)⟩
theorem fl_X1_25 : FLk RX1 25 1 7 := ⟨_, _, _, _, clX1, by decide, GW_at 378 (by decide +kernel) (by decide +kernel), by decide, by decide, fun h => absurd h (by decide)⟩
theorem fl_X7_200 : FLk RX7 200 1 7 := ⟨_, _, _, _, clX1, by decide, GW_at 379 (by decide +kernel) (by decide +kernel), by decide, by decide, fun h => absurd h (by decide)⟩
theorem fl_X1_28 : FLk RX1 28 1 8 := ⟨_, _, _, _, clX1, by decide, GW_at 380 (by decide +kernel) (by decide +kernel), by decide, by decide, fun h => absurd h (by decide)⟩
theorem fl_X1_32 : FLk RX1 32 1 9 := ⟨_, _, _, _, clX1, by decide, GW_at 381 (by decide +kernel) (by decide +kernel), by decide, by decide, fun h => absurd h (by decide)⟩
theorem fl_X7_214 : FLk RX7 214 1 9 := ⟨_, _, _, _, clX1, by decide, GW_at 382 (by decide +kernel) (by decide +kernel), by decide, by decide, fun h => absurd h (by decide)⟩
theorem fl_X1_35 : FLk RX1 35 1 10 := ⟨_, _, _, _, clX1, by decide, GW_at 383 (by decide +kernel) (by decide +kernel), by decide, by decide, fun h => absurd h (by decide)⟩
theorem fl_X7_220 : FLk RX7 220 1 10 := ⟨_, _, _, _, clX1, by decide, GW_at 384 (by decide +kernel) (by decide +kernel), by decide, by decide, fun h => absurd h (by decide)⟩
theorem fl_X1_38 : FLk RX1 38 1 11 := ⟨_, _, _, _, clX1, by decide, GW_at 385 (by decide +kernel) (by decide +kernel), by decide, by decide, fun h => absurd h (by decide)⟩
theorem fl_X1_41 : FLk RX1 41 1 12 := ⟨_, _, _, _, clX1, by decide, GW_at 386 (by decide +kernel) (by decide +kernel), by decide, by decide, fun h => absurd h (by decide)⟩
theorem fl_X7_9 : FLk RX7 9 7 0 := ⟨_, _, _, _, clX7, by decide, GW_at 414 (by decide +kernel) (by decide +kernel), by decide, by decide, fun h => absurd h (by decide)⟩
theorem fl_X7_58 : FLk RX7 58 7 1 := ⟨_, _, _, _, clX7, by decide, GW_at 415 (by decide +kernel) (by decide +kernel), by decide, by decide, fun h => absurd h (by decide)⟩
theorem fl_X7_16 : FLk RX7 16 7 2 := ⟨_, _, _, _, clX7, by decide, GW_at 416 (by decide +kernel) (by decide +kernel), by decide, by decide, fun h => ⟨⟨_, rfl⟩, rfl⟩⟩
theorem fl_X7_20 : FLk RX7 20 7 3 := ⟨_, _, _, _, clX7, by decide, GW_at 417 (by decide +kernel) (by decide +kernel), by decide, by decide, fun h => ⟨⟨_, rfl⟩, rfl⟩⟩
theorem fl_X7_28 : FLk RX7 28 7 4 := ⟨_, _, _, _, clX7, by decide, GW_at 418 (by decide +kernel) (by decide +kernel), by decide, by decide, fun h => absurd h (by decide)⟩
theorem fl_X7_35 : FLk RX7 35 7 5 := ⟨_, _, _, _, clX7, by decide, GW_at 419 (by decide +kernel) (by decide +kernel), by decide, by decide, fun h => absurd h (by decide)⟩
theorem fl_X7_39 : FLk RX7 39 7 6 := ⟨_, _, _, _, clX7, by decide, GW_at 420 (by decide +kernel) (by decide +kernel), by decide, by decide, fun h => absurd h (by decide)⟩
theorem fl_X7_90 : FLk RX7 90 7 7 := ⟨_, _, _, _, clX7, by decide, GW_at 421 (by decide +kernel) (by decide +kernel), by decide, by decide, fun h => absurd h (by decide)⟩
theorem fl_X7_47 : FLk RX7 47 7 8 := ⟨_, _, _, _, clX7, by decide, GW_at 422 (by decide +kernel) (by decide +kernel), by decide, by decide, fun h => absurd h (by decide)⟩
theorem fl_X7_51 : FLk RX7 51 7 9 := ⟨_, _, _, _, clX7, by decide, GW_at 423 (by decide +kernel) (by decide +kernel), by decide, by decide, fun h => absurd h (by decide)⟩
theorem fl_X7_94 : FLk RX7 94 7 10 := ⟨_, _, _, _, clX7, by decide, GW_at 424 (by decide +kernel) (by decide +kernel), by decide, by decide, fun h => absurd h (by decide)⟩
theorem fl_X7_54 : FLk RX7 54 7 11 := ⟨_, _, _, _, clX7, by decide, GW_at 425 (by decide +kernel) (by decide +kernel), by decide, by decide, fun h => absurd h (by decide)⟩
theorem fl_X2_7 : FLk RX2 7 2 0 := ⟨_, _, _, _, clX2, by decide, GW_at 1191 (by decide +kernel) (by decide +kernel), by decide, by decide, fun h => absurd h (by decide)⟩
theorem fl_X8_17 : FLk RX8 17 8 0 := ⟨_, _, _, _, clX8, by decide, GW_at 1222 (by decide +kernel) (by decide +kernel), by decide, by decide, fun h => absurd h (by decide)⟩
theorem fl_X8_31 : FLk RX8 31 8 1 := ⟨_, _, _, _, clX8, by decide, GW_at 1223 (by decide +kernel) (by decide +kernel), by decide, by decide, fun h => absurd h (by decide)⟩
theorem fl_X8_150 : FLk RX8 150 8 2 := ⟨_, _, _, _, clX8, by decide, GW_at 1224 (by decide +kernel) (by decide +kernel), by decide, by decide, fun h => absurd h (by decide)⟩
theorem fl_X8_34 : FLk RX8 34 8 3 := ⟨_, _, _, _, clX8, by decide, GW_at 1225 (by decide +kernel) (by decide +kernel), by decide, by decide, fun h => absurd h (by decide)⟩
theorem fl_X8_38 : FLk RX8 38 8 4 := ⟨_, _, _, _, clX8, by decide, GW_at 1226 (by decide +kernel) (by decide +kernel), by decide, by decide, fun h => absurd h (by decide)⟩
theorem fl_X8_41 : FLk RX8 41 8 5 := ⟨_, _, _, _, clX8, by decide, GW_at 1227 (by decide +kernel) (by decide +kernel), by decide, by decide, fun h => absurd h (by decide)⟩
theorem fl_X8_44 : FLk RX8 44 8 6 := ⟨_, _, _, _, clX8, by decide, GW_at 1228 (by decide +kernel) (by decide +kernel), by decide, by decide, fun h => absurd h (by decide)⟩
theorem fl_X8_47 : FLk RX8 47 8 7 := ⟨_, _, _, _, clX8, by decide, GW_at 1229 (by decide +kernel) (by decide +kernel), by decide, by decide, fun h => absurd h (by decide)⟩
theorem fl_X8_49 : FLk RX8 49 8 8 := ⟨_, _, _, _, clX8, by decide, GW_at 1230 (by decide +kernel) (by decide +kernel), by decide, by decide, fun h => absurd h (by decide)⟩
theorem fl_X8_52 : FLk RX8 52 8 9 := ⟨_, _, _, _, clX8, by decide, GW_at 1231 (by decide +kernel) (by decide +kernel), by decide, by decide, fun h => absurd h (by decide)⟩
theorem fl_X8_55 : FLk RX8 55 8 10 := ⟨_, _, _, _, clX8, by decide, GW_at 1232 (by decide +kernel) (by decide +kernel), by decide, by decide, fun h => absurd h (by decide)⟩
theorem fl_X8_57 : FLk RX8 57 8 11 := ⟨_, _, _, _, clX8, by decide, GW_at 1233 (by decide +kernel) (by decide +kernel), by decide, by decide, fun h => absurd h (by decide)⟩
theorem fl_X8_60 : FLk RX8 60 8 12 := ⟨_, _, _, _, clX8, by decide, GW_at 1234 (by decide +kernel) (by decide +kernel), by decide, by decide, fun h => absurd h (by decide)⟩
theorem fl_X8_63 : FLk RX8 63 8 13 := ⟨_, _, _, _, clX8, by decide, GW_at 1235 (by decide +kernel) (by decide +kernel), by decide, by decide, fun h => absurd h (by decide)⟩
theorem fl_X8_157 : FLk RX8 157 8 14 := ⟨_, _, _, _, clX8, by decide, GW_at 1236 (by decide +kernel) (by decide +kernel), by decide, by decide, fun h => absurd h (by decide)⟩
theorem fl_X8_163 : FLk RX8 163 8 15 := ⟨_, _, _, _, clX8, by decide, GW_at 1237 (by decide +kernel) (by decide +kernel), by decide, by decide, fun h => absurd h (by decide)⟩
theorem fl_X8_160 : FLk RX8 160 8 16 := ⟨_, _, _, _, clX8, by decide, GW_at 1238 (by decide +kernel) (by decide +kernel), by decide, by decide, fun h => absurd h (by decide)⟩
theorem fl_X8_173 : FLk RX8 173 8 17 := ⟨_, _, _, _, clX8, by decide, GW_at 1239 (by decide +kernel) (by decide +kernel), by decide, by decide, fun h => absurd h (by decide)⟩
theorem fl_X8_183 : FLk RX8 183 8 18 := ⟨_, _, _, _, clX8, by decide, GW_at 1240 (by decide +kernel) (by decide +kernel), by decide, by decide, fun h => absurd h (by decide)⟩
theorem fl_X8_170 : FLk RX8 170 8 19 := ⟨_, _, _, _, clX8, by decide, GW_at 1241 (by decide +kernel) (by decide +kernel), by decide, by decide, fun h => absurd h (by decide)⟩
theorem fl_X8_196 : FLk RX8 196 8 20 := ⟨_, _, _, _, clX8, by decide, GW_at 1242 (by decide +kernel) (by decide +kernel), by decide, by decide, fun h => absurd h (by decide)⟩
theorem fl_X8_199 : FLk RX8 199 8 21 := ⟨_, _, _, _, clX8, by decide, GW_at 1243 (by decide +kernel) (by decide +kernel), by decide, by decide, fun h => absurd h (by decide)⟩
theorem fl_X8_202 : FLk RX8 202 8 22 := ⟨_, _, _, _, clX8, by decide, GW_at 1244 (by decide +kernel) (by decide +kernel), by decide, by decide, fun h => absurd h (by decide)⟩
theorem fl_X8_66 : FLk RX8 66 8 23 := ⟨_, _, _, _, clX8, by decide, GW_at 1245 (by decide +kernel) (by decide +kernel), by decide, by decide, fun h => absurd h (by decide)⟩
theorem fl_X8_70 : FLk RX8 70 8 24 := ⟨_, _, _, _, clX8, by decide, GW_at 1246 (by decide +kernel) (by decide +kernel), by decide, by decide, fun h => absurd h (by decide)⟩
theorem fl_X8_73 : FLk RX8 73 8 25 := ⟨_, _, _, _, clX8, by decide, GW_at 1247 (by decide +kernel) (by decide +kernel), by decide, by decide, fun h => absurd h (by decide)⟩
theorem fl_X8_76 : FLk RX8 76 8 26 := ⟨_, _, _, _, clX8, by decide, GW_at 1248 (by decide +kernel) (by decide +kernel), by decide, by decide, fun h => absurd h (by decide)⟩
theorem fl_X8_79 : FLk RX8 79 8 27 := ⟨_, _, _, _, clX8, by decide, GW_at 1249 (by decide +kernel) (by decide +kernel), by decide, by decide, fun h => absurd h (by decide)⟩
theorem fl_X8_82 : FLk RX8 82 8 28 := ⟨_, _, _, _, clX8, by decide, GW_at 1250 (by decide +kernel) (by decide +kernel), by decide, by decide, fun h => absurd h (by decide)⟩
theorem fl_X8_311 : FLk RX8 311 8 29 := ⟨_, _, _, _, clX8, by decide, GW_at 1251 (by decide +kernel) (by decide +kernel), by decide, by decide, fun h => absurd h (by decide)⟩
theorem fl_X8_314 : FLk RX8 314 8 30 := ⟨_, _, _, _, clX8, by decide, GW_at 1252 (by decide +kernel) (by decide +kernel), by decide, by decide, fun h => absurd h (by decide)⟩
theorem fl_X8_317 : FLk RX8 317 8 31 := ⟨_, _, _, _, clX8, by decide, GW_at 1253 (by decide +kernel) (by decide +kernel), by decide, by decide, fun h => absurd h (by decide)⟩
theorem fl_X8_320 : FLk RX8 320 8 32 := ⟨_, _, _, _, clX8, by decide, GW_at 1254 (by decide +kernel) (by decide +kernel), by decide, by decide, fun h => absurd h (by decide)⟩
theorem fl_X8_323 : FLk RX8 323 8 33 := ⟨_, _, _, _, clX8, by decide, GW_at 1255 (by decide +kernel) (by decide +kernel), by decide, by decide, fun h => absurd h (by decide)⟩
theorem fl_X8_326 : FLk RX8 326 8 34 := ⟨_, _, _, _, clX8, by decide, GW_at 1256 (by decide +kernel) (by decide +kernel), by decide, by decide, fun h => absurd h (by decide)⟩
theorem fl_X8_85 : FLk RX8 85 8 35 := ⟨_, _, _, _, clX8, by decide, GW_at 1257 (by decide +kernel) (by decide +kernel), by decide, by decide, fun h => absurd h (by decide)⟩
theorem fl_X8_88 : FLk RX8 88 8 36 := ⟨_, _, _, _, clX8, by decide, GW_at 1258 (by decide +kernel) (by decide +kernel), by decide, by decide, fun h => absurd h (by decide)⟩
theorem fl_X8_91 : FLk RX8 91 8 37 := ⟨_, _, _, _, clX8, by decide, GW_at 1259 (by decide +kernel) (by decide +kernel), by decide, by decide, fun h => absurd h (by decide)⟩
theorem fl_X8_94 : FLk RX8 94 8 38 := ⟨_, _, _, _, clX8, by decide, GW_at 1260 (by decide +kernel) (by decide +kernel), by decide, by decide, fun h => absurd h (by decide)⟩
theorem fl_X8_97 : FLk RX8 97 8 39 := ⟨_, _, _, _, clX8, by decide, GW_at 1261 (by decide +kernel) (by decide +kernel), by decide, by decide, fun h => absurd h (by decide)⟩
theorem fl_X8_100 : FLk RX8 100 8 40 := ⟨_, _, _, _, clX8, by decide, GW_at 1262 (by decide +kernel) (by decide +kernel), by decide, by decide, fun h => absurd h (by decide)⟩
theorem fl_X8_343 : FLk RX8 343 8 41 := ⟨_, _, _, _, clX8, by decide, GW_at 1263 (by decide +kernel) (by decide +kernel), by decide, by decide, fun h => absurd h (by decide)⟩
theorem fl_X8_340 : FLk RX8 340 8 42 := ⟨_, _, _, _, clX8, by decide, GW_at 1264 (by decide +kernel) (by decide +kernel), by decide, by decide, fun h => absurd h (by decide)⟩
theorem fl_X8_103 : FLk RX8 103 8 43 := ⟨_, _, _, _, clX8, by decide, GW_at 1265 (by decide +kernel) (by decide +kernel), by decide, by decide, fun h => absurd h (by decide)⟩
theorem fl_X8_106 : FLk RX8 106 8 44 := ⟨_, _, _, _, clX8, by decide, GW_at 1266 (by decide +kernel) (by decide +kernel), by decide, by decide, fun h => absurd h (by decide)⟩
theorem fl_X8_108 : FLk RX8 108 8 45 := ⟨_, _, _, _, clX8, by decide, GW_at 1267 (by decide +kernel) (by decide +kernel), by decide, by decide, fun h => absurd h (by decide)⟩
theorem fl_X8_111 : FLk RX8 111 8 46 := ⟨_, _, _, _, clX8, by decide, GW_at 1268 (by decide +kernel) (by decide +kernel), by decide, by decide, fun h => absurd h (by decide)⟩
theorem fl_X8_114 : FLk RX8 114 8 47 := ⟨_, _, _, _, clX8, by decide, GW_at 1269 (by decide +kernel) (by decide +kernel), by decide, by decide, fun h => absurd h (by decide)⟩
theorem fl_X8_117 : FLk RX8 117 8 48 := ⟨_, _, _, _, clX8, by decide, GW_at 1270 (by decide +kernel) (by decide +kernel), by decide, by decide, fun h => absurd h (by decide)⟩
theorem fl_X8_120 : FLk RX8 120 8 49 := ⟨_, _, _, _, clX8, by decide, GW_at 1271 (by decide +kernel) (by decide +kernel), by decide, by decide, fun h => absurd h (by decide)⟩
theorem fl_X8_123 : FLk RX8 123 8 50 := ⟨_, _, _, _, clX8, by decide, GW_at 1272 (by decide +kernel) (by decide +kernel), by decide, by decide, fun h => absurd h (by decide)⟩
theorem fl_X8_126 : FLk RX8 126 8 51 := ⟨_, _, _, _, clX8, by decide, GW_at 1273 (by decide +kernel) (by decide +kernel), by decide, by decide, fun h => absurd h (by decide)⟩
theorem fl_X8_129 : FLk RX8 129 8 52 := ⟨_, _, _, _, clX8, by decide, GW_at 1274 (by decide +kernel) (by decide +kernel), by decide, by decide, fun h => absurd h (by decide)⟩
theorem fl_X8_464 : FLk RX8 464 8 53 := ⟨_, _, _, _, clX8, by decide, GW_at 1275 (by decide +kernel) (by decide +kernel), by decide, by decide, fun h => absurd h (by decide)⟩
theorem fl_X8_329 : FLk RX8 329 8 54 := ⟨_, _, _, _, clX8, by decide, GW_at 1276 (by decide +kernel) (by decide +kernel), by decide, by decide, fun h => absurd h (by decide)⟩
theorem fl_X8_473 : FLk RX8 473 8 55 := ⟨_, _, _, _, clX8, by decide, GW_at 1277 (by decide +kernel) (by decide +kernel), by decide, by decide, fun h => absurd h (by decide)⟩
theorem fl_X8_476 : FLk RX8 476 8 56 := ⟨_, _, _, _, clX8, by decide, GW_at 1278 (by decide +kernel) (by decide +kernel), by decide, by decide, fun h => absurd h (by decide)⟩
theorem fl_X8_132 : FLk RX8 132 8 57 := ⟨_, _, _, _, clX8, by decide, GW_at 1279 (by decide +kernel) (by decide +kernel), by decide, by decide, fun h => absurd h (by decide)⟩
theorem fl_X8_135 : FLk RX8 135 8 58 := ⟨_, _, _, _, clX8, by decide, GW_at 1280 (by decide +kernel) (by decide +kernel), by decide, by decide, fun h => absurd h (by decide)⟩
theorem fl_X8_138 : FLk RX8 138 8 59 := ⟨_, _, _, _, clX8, by decide, GW_at 1281 (by decide +kernel) (by decide +kernel), by decide, by decide, fun h => absurd h (by decide)⟩
theorem fl_X8_141 : FLk RX8 141 8 60 := ⟨_, _, _, _, clX8, by decide, GW_at 1282 (by decide +kernel) (by decide +kernel), by decide, by decide, fun h => absurd h (by decide)⟩
theorem fl_X8_144 : FLk RX8 144 8 61 := ⟨_, _, _, _, clX8, by decide, GW_at 1283 (by decide +kernel) (by decide +kernel), by decide, by decide, fun h => absurd h (by decide)⟩
theorem fl_X8_147 : FLk RX8 147 8 62 := ⟨_, _, _, _, clX8, by decide, GW_at 1284 (by decide +kernel) (by decide +kernel), by decide, by decide, fun h => absurd h (by decide)⟩
theorem kc_J6_265 : Cond.constant RJ6 265 (1431655765) ∈ GW := GW_at 1127 (by decide +kernel) (by decide +kernel)
theorem kc_J6_266 : Cond.constant RJ6 266 (858993459) ∈ GW := GW_at 1128 (by decide +kernel) (by decide +kernel)
theorem kc_J6_267 : Cond.constant RJ6 267 (252645135) ∈ GW := GW_at 1129 (by decide +kernel) (by decide +kernel)
theorem kc_X2_13 : Cond.constant RX2 13 (1103515245) ∈ GW := GW_at 1203 (by decide +kernel) (by decide +kernel)
theorem kc_X8_186 : Cond.constant RX8 186 (100000) ∈ GW := GW_at 1442 (by decide +kernel) (by decide +kernel)
theorem kc_X8_467 : Cond.constant RX8 467 (1103515245) ∈ GW := GW_at 1814 (by decide +kernel) (by decide +kernel)
theorem kl_X8_422 : Cond.constantLong RX8 422 (4) ∈ GW := GW_at 1669 (by decide +kernel) (by decide +kernel)
theorem kl_X8_427 : Cond.constantLong RX8 427 (3) ∈ GW := GW_at 1690 (by decide +kernel) (by decide +kernel)
theorem kl_X8_433 : Cond.constantLong RX8 433 (60) ∈ GW := GW_at 1707 (by decide +kernel) (by decide +kernel)
theorem kl_X8_441 : Cond.constantLong RX8 441 (99) ∈ GW := GW_at 1728 (by decide +kernel) (by decide +kernel)
theorem kl_X8_447 : Cond.constantLong RX8 447 (20) ∈ GW := GW_at 1740 (by decide +kernel) (by decide +kernel)
theorem kl_X8_455 : Cond.constantLong RX8 455 (2) ∈ GW := GW_at 1792 (by decide +kernel) (by decide +kernel)
theorem kl_X8_468 : Cond.constantLong RX8 468 (40) ∈ GW := GW_at 1809 (by decide +kernel) (by decide +kernel)
