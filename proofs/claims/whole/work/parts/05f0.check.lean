theorem gm_cw0 : gm_in 140 (.code yX0_init cX0_init 1 none) = true := by decide +kernel
theorem gm_cw1 : gm_in 556 (.code yX0_become cX0_become 2 none) = true := by decide +kernel
theorem gm_cw2 : gm_in 114 (.code yX1_init cX1_init 1 none) = true := by decide +kernel
theorem gm_cw3 : gm_in 552 (.code yX1_become cX1_become 2 none) = true := by decide +kernel
theorem gm_cw4 : gm_in 433 (.code yX1_isOf cX1_isOf 4 (some .boolean)) = true := by decide +kernel
theorem gm_cw5 : gm_in 381 (.code yX1_drawable cX1_drawable 1 (some .int)) = true := by decide +kernel
theorem gm_cw6 : gm_in 425 (.code yX1_catchOf cX1_catchOf 2 (some .int)) = true := by decide +kernel
theorem gm_cw7 : gm_in 409 (.code yX1_lossOf cX1_lossOf 2 (some .int)) = true := by decide +kernel
theorem gm_cw8 : gm_in 413 (.code yX1_worth cX1_worth 1 (some .int)) = true := by decide +kernel
theorem gm_cw9 : gm_in 105 (.code yX2_init cX2_init 3 none) = true := by decide +kernel
theorem gm_cw10 : gm_in 548 (.code yX2_become cX2_become 3 none) = true := by decide +kernel
theorem gm_cw11 : gm_in 369 (.code yX2_addButt cX2_addButt 5 none) = true := by decide +kernel
theorem gm_cw12 : gm_in 461 (.code yX2_addBed cX2_addBed 3 none) = true := by decide +kernel
theorem gm_cw13 : gm_in 481 (.code yX2_draw cX2_draw 1 (some .int)) = true := by decide +kernel
theorem gm_cw14 : gm_in 563 (.code yX2_passDays cX2_passDays 3 none) = true := by decide +kernel
theorem gm_cw15 : gm_in 498 (.code yX2_passDay cX2_passDay 4 none) = true := by decide +kernel
theorem gm_cw16 : gm_in 503 (.code yX2_rainFalls cX2_rainFalls 7 (some .int)) = true := by decide +kernel
theorem gm_cw17 : gm_in 421 (.code yX2_catchOf cX2_catchOf 5 (some .int)) = true := by decide +kernel
theorem gm_cw18 : gm_in 509 (.code yX2_buttsLose cX2_buttsLose 4 none) = true := by decide +kernel
theorem gm_cw19 : gm_in 388 (.code yX2_lossOf cX2_lossOf 4 (some .int)) = true := by decide +kernel
theorem gm_cw20 : gm_in 514 (.code yX2_bedsDraw cX2_bedsDraw 4 none) = true := by decide +kernel
theorem gm_cw21 : gm_in 518 (.code yX2_drawn cX2_drawn 5 (some .int)) = true := by decide +kernel
theorem gm_cw22 : gm_in 572 (.code yX2_isDry cX2_isDry 2 (some .boolean)) = true := by decide +kernel
theorem gm_cw23 : gm_in 527 (.code yX2_allHold cX2_allHold 3 (some .int)) = true := by decide +kernel
theorem gm_cw24 : gm_in 531 (.code yX2_allHad cX2_allHad 3 (some .int)) = true := by decide +kernel
theorem gm_cw25 : gm_in 535 (.code yX2_allLacked cX2_allLacked 3 (some .int)) = true := by decide +kernel
theorem gm_cw26 : gm_in 256 (.code yX3_init cX3_init 3 none) = true := by decide +kernel
theorem gm_cw27 : gm_in 641 (.code yX3_readsInto cX3_readsInto 2 (some .boolean)) = true := by decide +kernel
theorem gm_cw28 : gm_in 716 (.code yX3_begin cX3_begin 3 none) = true := by decide +kernel
theorem gm_cw29 : gm_in 729 (.code yX3_readsLevel cX3_readsLevel 7 (some .boolean)) = true := by decide +kernel
theorem gm_cw30 : gm_in 822 (.code yX3_levelOf cX3_levelOf 1 (some .int)) = true := by decide +kernel
theorem gm_cw31 : gm_in 733 (.code yX3_readsPiece cX3_readsPiece 5 (some .boolean)) = true := by decide +kernel
theorem gm_cw32 : gm_in 742 (.code yX3_readsNot cX3_readsNot 3 (some .boolean)) = true := by decide +kernel
theorem gm_cw33 : gm_in 750 (.code yX3_readsParens cX3_readsParens 3 (some .boolean)) = true := by decide +kernel
theorem gm_cw34 : gm_in 280 (.code yX4_init cX4_init 1 none) = true := by decide +kernel
theorem gm_cw35 : gm_in 838 (.code yX4_clear cX4_clear 4 none) = true := by decide +kernel
theorem gm_cw36 : gm_in 877 (.code yX4_become cX4_become 2 none) = true := by decide +kernel
theorem gm_cw37 : gm_in 863 (.code yX4_hasPlaces cX4_hasPlaces 3 (some .boolean)) = true := by decide +kernel
theorem gm_cw38 : gm_in 298 (.code yX5_init cX5_init 1 none) = true := by decide +kernel
theorem gm_cw39 : gm_in 886 (.code yX5_otherThing cX5_otherThing 1 (some .int)) = true := by decide +kernel
theorem gm_cw40 : gm_in 231 (.code yX6_init cX6_init 1 none) = true := by decide +kernel
theorem gm_cw41 : gm_in 629 (.code yX6_take cX6_take 3 none) = true := by decide +kernel
theorem gm_cw42 : gm_in 646 (.code yX6_rewind cX6_rewind 1 none) = true := by decide +kernel
theorem gm_cw43 : gm_in 650 (.code yX6_step cX6_step 3 none) = true := by decide +kernel
theorem gm_cw44 : gm_in 653 (.code yX6_sortOf cX6_sortOf 1 (some .int)) = true := by decide +kernel
theorem gm_cw45 : gm_in 663 (.code yX6_length cX6_length 1 (some .int)) = true := by decide +kernel
theorem gm_cw46 : gm_in 737 (.code yX6_sign cX6_sign 1 (some .int)) = true := by decide +kernel
theorem gm_cw47 : gm_in 754 (.code yX6_number cX6_number 3 (some .int)) = true := by decide +kernel
theorem gm_cw48 : gm_in 758 (.code yX6_nameAmong cX6_nameAmong 3 (some .int)) = true := by decide +kernel
theorem gm_cw49 : gm_in 659 (.code yX6_isWord cX6_isWord 3 (some .boolean)) = true := by decide +kernel
theorem gm_cw50 : gm_in 78 (.code yX7_init cX7_init 1 none) = true := by decide +kernel
theorem gm_cw51 : gm_in 720 (.code yX7_begin cX7_begin 3 none) = true := by decide +kernel
theorem gm_cw52 : gm_in 818 (.code yX7_addLeaf cX7_addLeaf 3 none) = true := by decide +kernel
theorem gm_cw53 : gm_in 746 (.code yX7_addStep cX7_addStep 3 none) = true := by decide +kernel
theorem gm_cw54 : gm_in 392 (.code yX7_gives cX7_gives 10 (some .int)) = true := by decide +kernel
theorem gm_cw55 : gm_in 395 (.code yX7_leaf cX7_leaf 4 (some .int)) = true := by decide +kernel
