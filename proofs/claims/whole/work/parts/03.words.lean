theorem sn_mAr_fill : mSane mAr_fill 2 := ⟨rfl, by decide, by decide +kernel, by decide⟩
theorem sn_mPb_status : mSane mPb_status 0 := ⟨rfl, by decide, by decide +kernel, by decide⟩
theorem sn_mPb_top : mSane mPb_top 0 := ⟨rfl, by decide, by decide +kernel, by decide⟩
theorem sn_mPb_bottom : mSane mPb_bottom 0 := ⟨rfl, by decide, by decide +kernel, by decide⟩
theorem sn_mPb_tray : mSane mPb_tray 3 := ⟨rfl, by decide, by decide +kernel, by decide⟩
theorem sn_mTr_exists : mSane mTr_exists 1 := ⟨rfl, by decide, by decide +kernel, by decide⟩
theorem sn_mTr_isSort : mSane mTr_isSort 1 := ⟨rfl, by decide, by decide +kernel, by decide⟩
theorem sn_mPb_deny : mSane mPb_deny 1 := ⟨rfl, by decide, by decide +kernel, by decide⟩
theorem sn_mTr_lay : mSane mTr_lay 3 := ⟨rfl, by decide, by decide +kernel, by decide⟩
theorem sn_mPb_grant : mSane mPb_grant 0 := ⟨rfl, by decide, by decide +kernel, by decide⟩
theorem sn_mPb_write : mSane mPb_write 3 := ⟨rfl, by decide, by decide +kernel, by decide⟩
theorem sn_mTr_whyNot : mSane mTr_whyNot 2 := ⟨rfl, by decide, by decide +kernel, by decide⟩
theorem sn_mTr_isMissing : mSane mTr_isMissing 1 := ⟨rfl, by decide, by decide +kernel, by decide⟩
theorem sn_mTr_hasRow : mSane mTr_hasRow 3 := ⟨rfl, by decide, by decide +kernel, by decide⟩
theorem sn_mTr_lengthOf : mSane mTr_lengthOf 1 := ⟨rfl, by decide, by decide +kernel, by decide⟩
theorem sn_mTr_put : mSane mTr_put 3 := ⟨rfl, by decide, by decide +kernel, by decide⟩
theorem sn_mTr_cutTo : mSane mTr_cutTo 2 := ⟨rfl, by decide, by decide +kernel, by decide⟩
theorem sn_mPb_read : mSane mPb_read 2 := ⟨rfl, by decide, by decide +kernel, by decide⟩
theorem sn_mPb_refuse : mSane mPb_refuse 1 := ⟨rfl, by decide, by decide +kernel, by decide⟩
theorem sn_mTr_at : mSane mTr_at 2 := ⟨rfl, by decide, by decide +kernel, by decide⟩
theorem sn_mPb_pour : mSane mPb_pour 5 := ⟨rfl, by decide, by decide +kernel, by decide⟩
theorem sn_mTr_alike : mSane mTr_alike 2 := ⟨rfl, by decide, by decide +kernel, by decide⟩
theorem sn_mTr_move : mSane mTr_move 5 := ⟨rfl, by decide, by decide +kernel, by decide⟩
theorem sn_mPb_feed : mSane mPb_feed 5 := ⟨rfl, by decide, by decide +kernel, by decide⟩
theorem sn_mTo_hasRoomFor : mSane mTo_hasRoomFor 1 := ⟨rfl, by decide, by decide +kernel, by decide⟩
theorem sn_mTo_append : mSane mTo_append 1 := ⟨rfl, by decide, by decide +kernel, by decide⟩
theorem sn_mPb_town : mSane mPb_town 1 := ⟨rfl, by decide, by decide +kernel, by decide⟩
theorem sn_mTe_readTown : mSane mTe_readTown 2 := ⟨rfl, by decide, by decide +kernel, by decide⟩
theorem sn_mTw_clear : mSane mTw_clear 0 := ⟨rfl, by decide, by decide +kernel, by decide⟩
theorem sn_mNa_clear : mSane mNa_clear 0 := ⟨rfl, by decide, by decide +kernel, by decide⟩
theorem sn_mAr_filll : mSane mAr_filll 2 := ⟨rfl, by decide, by decide +kernel, by decide⟩
theorem sn_mDa_clear : mSane mDa_clear 0 := ⟨rfl, by decide, by decide +kernel, by decide⟩
theorem sn_mTo_open : mSane mTo_open 1 := ⟨rfl, by decide, by decide +kernel, by decide⟩
theorem sn_mTo_advance : mSane mTo_advance 0 := ⟨rfl, by decide, by decide +kernel, by decide⟩
theorem sn_mTo_cutWord : mSane mTo_cutWord 0 := ⟨rfl, by decide, by decide +kernel, by decide⟩
theorem sn_mTo_cutNumber : mSane mTo_cutNumber 0 := ⟨rfl, by decide, by decide +kernel, by decide⟩
theorem sn_mTo_goesOn : mSane mTo_goesOn 0 := ⟨rfl, by decide, by decide +kernel, by decide⟩
theorem sn_mTo_wordHere : mSane mTo_wordHere 0 := ⟨rfl, by decide, by decide +kernel, by decide⟩
theorem sn_mTe_readPerson : mSane mTe_readPerson 1 := ⟨rfl, by decide, by decide +kernel, by decide⟩
theorem sn_mTe_beginPart : mSane mTe_beginPart 2 := ⟨rfl, by decide, by decide +kernel, by decide⟩
theorem sn_mTo_blame : mSane mTo_blame 1 := ⟨rfl, by decide, by decide +kernel, by decide⟩
theorem sn_mTo_takeWord : mSane mTo_takeWord 1 := ⟨rfl, by decide, by decide +kernel, by decide⟩
theorem sn_mTo_isWord : mSane mTo_isWord 1 := ⟨rfl, by decide, by decide +kernel, by decide⟩
theorem sn_mTo_misplaced : mSane mTo_misplaced 0 := ⟨rfl, by decide, by decide +kernel, by decide⟩
theorem sn_mTo_takeNewName : mSane mTo_takeNewName 1 := ⟨rfl, by decide, by decide +kernel, by decide⟩
theorem sn_mTo_seesName : mSane mTo_seesName 0 := ⟨rfl, by decide, by decide +kernel, by decide⟩
theorem sn_mNa_isTaken : mSane mNa_isTaken 1 := ⟨rfl, by decide, by decide +kernel, by decide⟩
theorem sn_mTo_skips : mSane mTo_skips 1 := ⟨rfl, by decide, by decide +kernel, by decide⟩
theorem sn_mTo_takeNumber : mSane mTo_takeNumber 2 := ⟨rfl, by decide, by decide +kernel, by decide⟩
theorem sn_mTe_endsPart : mSane mTe_endsPart 0 := ⟨rfl, by decide, by decide +kernel, by decide⟩
theorem sn_mTo_takeSign : mSane mTo_takeSign 1 := ⟨rfl, by decide, by decide +kernel, by decide⟩
theorem sn_mTw_addPerson : mSane mTw_addPerson 2 := ⟨rfl, by decide, by decide +kernel, by decide⟩
theorem sn_mNa_give : mSane mNa_give 3 := ⟨rfl, by decide, by decide +kernel, by decide⟩
theorem sn_mTe_readOven : mSane mTe_readOven 1 := ⟨rfl, by decide, by decide +kernel, by decide⟩
theorem sn_mTw_addOven : mSane mTw_addOven 2 := ⟨rfl, by decide, by decide +kernel, by decide⟩
theorem sn_mTe_readLoaf : mSane mTe_readLoaf 1 := ⟨rfl, by decide, by decide +kernel, by decide⟩
theorem sn_mTo_takeName : mSane mTo_takeName 3 := ⟨rfl, by decide, by decide +kernel, by decide⟩
theorem sn_mNa_numberOf : mSane mNa_numberOf 2 := ⟨rfl, by decide, by decide +kernel, by decide⟩
theorem sn_mTw_addLoaf : mSane mTw_addLoaf 6 := ⟨rfl, by decide, by decide +kernel, by decide⟩
theorem sn_mTw_hasPerson : mSane mTw_hasPerson 1 := ⟨rfl, by decide, by decide +kernel, by decide⟩
theorem sn_mTe_readTownPromise : mSane mTe_readTownPromise 1 := ⟨rfl, by decide, by decide +kernel, by decide⟩
theorem sn_mTe_readPromise : mSane mTe_readPromise 1 := ⟨rfl, by decide, by decide +kernel, by decide⟩
theorem sn_mTw_handOn : mSane mTw_handOn 5 := ⟨rfl, by decide, by decide +kernel, by decide⟩
theorem sn_mPr_hasRoom : mSane mPr_hasRoom 0 := ⟨rfl, by decide, by decide +kernel, by decide⟩
theorem sn_mPb_keepFault : mSane mPb_keepFault 0 := ⟨rfl, by decide, by decide +kernel, by decide⟩
theorem sn_mPb_carry : mSane mPb_carry 2 := ⟨rfl, by decide, by decide +kernel, by decide⟩
theorem sn_mTw_copyOf : mSane mTw_copyOf 1 := ⟨rfl, by decide, by decide +kernel, by decide⟩
theorem sn_mNa_copyOf : mSane mNa_copyOf 1 := ⟨rfl, by decide, by decide +kernel, by decide⟩
theorem sn_mPr_copyOf : mSane mPr_copyOf 1 := ⟨rfl, by decide, by decide +kernel, by decide⟩
theorem sn_mDa_copyOf : mSane mDa_copyOf 1 := ⟨rfl, by decide, by decide +kernel, by decide⟩
theorem sn_mPb_answer : mSane mPb_answer 1 := ⟨rfl, by decide, by decide +kernel, by decide⟩
theorem sn_mPb_days : mSane mPb_days 1 := ⟨rfl, by decide, by decide +kernel, by decide⟩
theorem sn_mTe_readDays : mSane mTe_readDays 3 := ⟨rfl, by decide, by decide +kernel, by decide⟩
theorem sn_mTe_readEnd : mSane mTe_readEnd 1 := ⟨rfl, by decide, by decide +kernel, by decide⟩
theorem sn_mDa_close : mSane mDa_close 1 := ⟨rfl, by decide, by decide +kernel, by decide⟩
theorem sn_mDa_add : mSane mDa_add 2 := ⟨rfl, by decide, by decide +kernel, by decide⟩
theorem sn_mTe_mayStepHere : mSane mTe_mayStepHere 2 := ⟨rfl, by decide, by decide +kernel, by decide⟩
theorem sn_mTe_isStep : mSane mTe_isStep 1 := ⟨rfl, by decide, by decide +kernel, by decide⟩
theorem sn_mTe_begins : mSane mTe_begins 1 := ⟨rfl, by decide, by decide +kernel, by decide⟩
theorem sn_mTe_readStep : mSane mTe_readStep 2 := ⟨rfl, by decide, by decide +kernel, by decide⟩
theorem sn_mTe_readTest : mSane mTe_readTest 1 := ⟨rfl, by decide, by decide +kernel, by decide⟩
theorem sn_mTo_takeCompares : mSane mTo_takeCompares 0 := ⟨rfl, by decide, by decide +kernel, by decide⟩
theorem sn_mTe_addStep : mSane mTe_addStep 2 := ⟨rfl, by decide, by decide +kernel, by decide⟩
theorem sn_mDa_begin : mSane mDa_begin 0 := ⟨rfl, by decide, by decide +kernel, by decide⟩
theorem sn_mPb_fault : mSane mPb_fault 1 := ⟨rfl, by decide, by decide +kernel, by decide⟩
theorem sn_mPb_many : mSane mPb_many 1 := ⟨rfl, by decide, by decide +kernel, by decide⟩
theorem sn_mPb_person : mSane mPb_person 2 := ⟨rfl, by decide, by decide +kernel, by decide⟩
theorem sn_mPb_loaf : mSane mPb_loaf 2 := ⟨rfl, by decide, by decide +kernel, by decide⟩
theorem sn_mTw_hasLoaf : mSane mTw_hasLoaf 1 := ⟨rfl, by decide, by decide +kernel, by decide⟩
theorem sn_mTw_isPaper : mSane mTw_isPaper 1 := ⟨rfl, by decide, by decide +kernel, by decide⟩
theorem sn_mTw_isBaked : mSane mTw_isBaked 1 := ⟨rfl, by decide, by decide +kernel, by decide⟩
theorem sn_mPb_promise : mSane mPb_promise 2 := ⟨rfl, by decide, by decide +kernel, by decide⟩
theorem sn_mPr_has : mSane mPr_has 1 := ⟨rfl, by decide, by decide +kernel, by decide⟩
theorem sn_mPb_holds : mSane mPb_holds 2 := ⟨rfl, by decide, by decide +kernel, by decide⟩
theorem sn_mSh_weigh : mSane mSh_weigh 2 := ⟨rfl, by decide, by decide +kernel, by decide⟩
theorem sn_mSh_lineUp : mSane mSh_lineUp 0 := ⟨rfl, by decide, by decide +kernel, by decide⟩
theorem sn_mPb_deep : mSane mPb_deep 1 := ⟨rfl, by decide, by decide +kernel, by decide⟩
theorem sn_mPr_deepest : mSane mPr_deepest 2 := ⟨rfl, by decide, by decide +kernel, by decide⟩
theorem sn_mPb_first : mSane mPb_first 3 := ⟨rfl, by decide, by decide +kernel, by decide⟩
theorem sn_mPb_line : mSane mPb_line 2 := ⟨rfl, by decide, by decide +kernel, by decide⟩
theorem sn_mPb_whose : mSane mPb_whose 3 := ⟨rfl, by decide, by decide +kernel, by decide⟩
theorem sn_mTw_comesOf : mSane mTw_comesOf 2 := ⟨rfl, by decide, by decide +kernel, by decide⟩
theorem sn_mSh_deal : mSane mSh_deal 1 := ⟨rfl, by decide, by decide +kernel, by decide⟩
theorem sn_mSh_ownerOf : mSane mSh_ownerOf 1 := ⟨rfl, by decide, by decide +kernel, by decide⟩
theorem sn_mPb_depth : mSane mPb_depth 1 := ⟨rfl, by decide, by decide +kernel, by decide⟩
theorem sn_mTw_bakerOf : mSane mTw_bakerOf 1 := ⟨rfl, by decide, by decide +kernel, by decide⟩
theorem sn_mPb_between : mSane mPb_between 2 := ⟨rfl, by decide, by decide +kernel, by decide⟩
theorem sn_mPr_handed : mSane mPr_handed 2 := ⟨rfl, by decide, by decide +kernel, by decide⟩
theorem sn_mPr_stands : mSane mPr_stands 1 := ⟨rfl, by decide, by decide +kernel, by decide⟩
theorem sn_mPb_gets : mSane mPb_gets 3 := ⟨rfl, by decide, by decide +kernel, by decide⟩
theorem sn_mPb_wouldGet : mSane mPb_wouldGet 3 := ⟨rfl, by decide, by decide +kernel, by decide⟩
theorem sn_mPb_shame : mSane mPb_shame 2 := ⟨rfl, by decide, by decide +kernel, by decide⟩
theorem sn_mSh_settle : mSane mSh_settle 3 := ⟨rfl, by decide, by decide +kernel, by decide⟩
theorem sn_mPb_mean : mSane mPb_mean 3 := ⟨rfl, by decide, by decide +kernel, by decide⟩
theorem sn_mTw_rainOn : mSane mTw_rainOn 1 := ⟨rfl, by decide, by decide +kernel, by decide⟩
theorem sn_mPb_tell : mSane mPb_tell 2 := ⟨rfl, by decide, by decide +kernel, by decide⟩
theorem sn_mPb_net : mSane mPb_net 1 := ⟨rfl, by decide, by decide +kernel, by decide⟩
theorem sn_mPr_surplus : mSane mPr_surplus 1 := ⟨rfl, by decide, by decide +kernel, by decide⟩
theorem sn_mPb_handOvers : mSane mPb_handOvers 0 := ⟨rfl, by decide, by decide +kernel, by decide⟩
theorem sn_mNe_fewestHandOvers : mSane mNe_fewestHandOvers 1 := ⟨rfl, by decide, by decide +kernel, by decide⟩
theorem sn_mPb_ring : mSane mPb_ring 0 := ⟨rfl, by decide, by decide +kernel, by decide⟩
theorem sn_mNe_findRing : mSane mNe_findRing 1 := ⟨rfl, by decide, by decide +kernel, by decide⟩
theorem sn_mNe_measure : mSane mNe_measure 1 := ⟨rfl, by decide, by decide +kernel, by decide⟩
theorem sn_mNe_way : mSane mNe_way 2 := ⟨rfl, by decide, by decide +kernel, by decide⟩
theorem sn_mNe_nextOnWay : mSane mNe_nextOnWay 4 := ⟨rfl, by decide, by decide +kernel, by decide⟩
theorem sn_mPb_ringAt : mSane mPb_ringAt 1 := ⟨rfl, by decide, by decide +kernel, by decide⟩
theorem sn_mPb_owing : mSane mPb_owing 1 := ⟨rfl, by decide, by decide +kernel, by decide⟩
theorem sn_mPb_saved : mSane mPb_saved 3 := ⟨rfl, by decide, by decide +kernel, by decide⟩
theorem sn_mSh_gather : mSane mSh_gather 2 := ⟨rfl, by decide, by decide +kernel, by decide⟩
theorem sn_mSh_cheapestSet : mSane mSh_cheapestSet 2 := ⟨rfl, by decide, by decide +kernel, by decide⟩
theorem sn_mSh_gathered : mSane mSh_gathered 1 := ⟨rfl, by decide, by decide +kernel, by decide⟩
theorem sn_mTw_flourOf : mSane mTw_flourOf 1 := ⟨rfl, by decide, by decide +kernel, by decide⟩
theorem sn_mPb_faces : mSane mPb_faces 0 := ⟨rfl, by decide, by decide +kernel, by decide⟩
theorem sn_mSh_othersHold : mSane mSh_othersHold 1 := ⟨rfl, by decide, by decide +kernel, by decide⟩
theorem sn_mPb_keeps : mSane mPb_keeps 3 := ⟨rfl, by decide, by decide +kernel, by decide⟩
theorem sn_mTr_allWithin : mSane mTr_allWithin 3 := ⟨rfl, by decide, by decide +kernel, by decide⟩
theorem sn_mPb_firstBrokenDay : mSane mPb_firstBrokenDay 3 := ⟨rfl, by decide, by decide +kernel, by decide⟩
theorem sn_mPb_burst : mSane mPb_burst 0 := ⟨rfl, by decide, by decide +kernel, by decide⟩
theorem sn_mPb_cuts : mSane mPb_cuts 5 := ⟨rfl, by decide, by decide +kernel, by decide⟩
theorem sn_mPb_cuttingTurn : mSane mPb_cuttingTurn 4 := ⟨rfl, by decide, by decide +kernel, by decide⟩
theorem sn_mPb_auction : mSane mPb_auction 3 := ⟨rfl, by decide, by decide +kernel, by decide⟩
theorem sn_mTr_placeOfMost : mSane mTr_placeOfMost 3 := ⟨rfl, by decide, by decide +kernel, by decide⟩
theorem sn_mPb_make : mSane mPb_make 5 := ⟨rfl, by decide, by decide +kernel, by decide⟩
theorem sn_mPb_letGo : mSane mPb_letGo 1 := ⟨rfl, by decide, by decide +kernel, by decide⟩
theorem sn_mTw_release : mSane mTw_release 1 := ⟨rfl, by decide, by decide +kernel, by decide⟩
theorem sn_mPb_bake : mSane mPb_bake 1 := ⟨rfl, by decide, by decide +kernel, by decide⟩
theorem sn_mTw_canBake : mSane mTw_canBake 1 := ⟨rfl, by decide, by decide +kernel, by decide⟩
theorem sn_mTw_rainsOn : mSane mTw_rainsOn 1 := ⟨rfl, by decide, by decide +kernel, by decide⟩
theorem sn_mTw_isWet : mSane mTw_isWet 1 := ⟨rfl, by decide, by decide +kernel, by decide⟩
theorem sn_mTw_bringOut : mSane mTw_bringOut 2 := ⟨rfl, by decide, by decide +kernel, by decide⟩
theorem sn_mPb_pass : mSane mPb_pass 1 := ⟨rfl, by decide, by decide +kernel, by decide⟩
theorem sn_mPb_eat : mSane mPb_eat 2 := ⟨rfl, by decide, by decide +kernel, by decide⟩
theorem sn_mTw_feast : mSane mTw_feast 2 := ⟨rfl, by decide, by decide +kernel, by decide⟩
theorem sn_mPb_pay : mSane mPb_pay 3 := ⟨rfl, by decide, by decide +kernel, by decide⟩
theorem sn_mTw_handMoney : mSane mTw_handMoney 3 := ⟨rfl, by decide, by decide +kernel, by decide⟩
theorem sn_mPb_live : mSane mPb_live 1 := ⟨rfl, by decide, by decide +kernel, by decide⟩
theorem sn_mLi_run : mSane mLi_run 2 := ⟨rfl, by decide, by decide +kernel, by decide⟩
theorem sn_mLi_goOn : mSane mLi_goOn 2 := ⟨rfl, by decide, by decide +kernel, by decide⟩
theorem sn_mDa_cell : mSane mDa_cell 2 := ⟨rfl, by decide, by decide +kernel, by decide⟩
theorem sn_mLi_behindEnd : mSane mLi_behindEnd 2 := ⟨rfl, by decide, by decide +kernel, by decide⟩
theorem sn_mLi_isTrue : mSane mLi_isTrue 2 := ⟨rfl, by decide, by decide +kernel, by decide⟩
theorem sn_mLi_compares : mSane mLi_compares 3 := ⟨rfl, by decide, by decide +kernel, by decide⟩
theorem sn_mLi_isDone : mSane mLi_isDone 3 := ⟨rfl, by decide, by decide +kernel, by decide⟩
theorem sn_mLi_hasBaked : mSane mLi_hasBaked 2 := ⟨rfl, by decide, by decide +kernel, by decide⟩
theorem sn_mLi_hasWaited : mSane mLi_hasWaited 2 := ⟨rfl, by decide, by decide +kernel, by decide⟩
theorem sn_mLi_nextDraw : mSane mLi_nextDraw 0 := ⟨rfl, by decide, by decide +kernel, by decide⟩
theorem sn_mPb_lived : mSane mPb_lived 1 := ⟨rfl, by decide, by decide +kernel, by decide⟩
theorem sn_mPb_odds : mSane mPb_odds 4 := ⟨rfl, by decide, by decide +kernel, by decide⟩
theorem sn_mPb_mark : mSane mPb_mark 0 := ⟨rfl, by decide, by decide +kernel, by decide⟩
theorem sn_mPb_back : mSane mPb_back 0 := ⟨rfl, by decide, by decide +kernel, by decide⟩
theorem sn_mMo_status : mSane mMo_status 0 := ⟨rfl, by decide, by decide +kernel, by decide⟩
theorem sn_mMo_top : mSane mMo_top 0 := ⟨rfl, by decide, by decide +kernel, by decide⟩
theorem sn_mMo_bottom : mSane mMo_bottom 0 := ⟨rfl, by decide, by decide +kernel, by decide⟩
theorem sn_mMo_tray : mSane mMo_tray 3 := ⟨rfl, by decide, by decide +kernel, by decide⟩
theorem sn_mMo_no : mSane mMo_no 1 := ⟨rfl, by decide, by decide +kernel, by decide⟩
theorem sn_mMo_write : mSane mMo_write 3 := ⟨rfl, by decide, by decide +kernel, by decide⟩
theorem sn_mMo_placed : mSane mMo_placed 2 := ⟨rfl, by decide, by decide +kernel, by decide⟩
theorem sn_mMo_trayed : mSane mMo_trayed 1 := ⟨rfl, by decide, by decide +kernel, by decide⟩
theorem sn_mMo_cut : mSane mMo_cut 2 := ⟨rfl, by decide, by decide +kernel, by decide⟩
theorem sn_mMo_read : mSane mMo_read 2 := ⟨rfl, by decide, by decide +kernel, by decide⟩
theorem sn_mMo_pour : mSane mMo_pour 5 := ⟨rfl, by decide, by decide +kernel, by decide⟩
theorem sn_mMo_feed : mSane mMo_feed 5 := ⟨rfl, by decide, by decide +kernel, by decide⟩
theorem sn_mMo_lay : mSane mMo_lay 1 := ⟨rfl, by decide, by decide +kernel, by decide⟩
theorem sn_mMo_fault : mSane mMo_fault 1 := ⟨rfl, by decide, by decide +kernel, by decide⟩
theorem sn_mMo_town : mSane mMo_town 1 := ⟨rfl, by decide, by decide +kernel, by decide⟩
theorem sn_mMo_opens : mSane mMo_opens 2 := ⟨rfl, by decide, by decide +kernel, by decide⟩
theorem sn_mMo_next : mSane mMo_next 0 := ⟨rfl, by decide, by decide +kernel, by decide⟩
theorem sn_mMo_look2 : mSane mMo_look2 1 := ⟨rfl, by decide, by decide +kernel, by decide⟩
theorem sn_mMo_isLetter : mSane mMo_isLetter 1 := ⟨rfl, by decide, by decide +kernel, by decide⟩
theorem sn_mMo_isDigit : mSane mMo_isDigit 1 := ⟨rfl, by decide, by decide +kernel, by decide⟩
theorem sn_mMo_isSignByte : mSane mMo_isSignByte 1 := ⟨rfl, by decide, by decide +kernel, by decide⟩
theorem sn_mMo_isPerson : mSane mMo_isPerson 0 := ⟨rfl, by decide, by decide +kernel, by decide⟩
theorem sn_mMo_spelled : mSane mMo_spelled 6 := ⟨rfl, by decide, by decide +kernel, by decide⟩
theorem sn_mMo_isWord : mSane mMo_isWord 1 := ⟨rfl, by decide, by decide +kernel, by decide⟩
theorem sn_mMo_readPerson : mSane mMo_readPerson 0 := ⟨rfl, by decide, by decide +kernel, by decide⟩
theorem sn_mMo_fail : mSane mMo_fail 2 := ⟨rfl, by decide, by decide +kernel, by decide⟩
theorem sn_mMo_readNew : mSane mMo_readNew 1 := ⟨rfl, by decide, by decide +kernel, by decide⟩
theorem sn_mMo_isName : mSane mMo_isName 0 := ⟨rfl, by decide, by decide +kernel, by decide⟩
theorem sn_mMo_isKept : mSane mMo_isKept 0 := ⟨rfl, by decide, by decide +kernel, by decide⟩
theorem sn_mMo_isPurse : mSane mMo_isPurse 0 := ⟨rfl, by decide, by decide +kernel, by decide⟩
theorem sn_mMo_isOven : mSane mMo_isOven 0 := ⟨rfl, by decide, by decide +kernel, by decide⟩
theorem sn_mMo_isRain : mSane mMo_isRain 0 := ⟨rfl, by decide, by decide +kernel, by decide⟩
theorem sn_mMo_isLoaf : mSane mMo_isLoaf 0 := ⟨rfl, by decide, by decide +kernel, by decide⟩
theorem sn_mMo_isBy : mSane mMo_isBy 0 := ⟨rfl, by decide, by decide +kernel, by decide⟩
theorem sn_mMo_isInWord : mSane mMo_isInWord 0 := ⟨rfl, by decide, by decide +kernel, by decide⟩
theorem sn_mMo_isOn : mSane mMo_isOn 0 := ⟨rfl, by decide, by decide +kernel, by decide⟩
theorem sn_mMo_isSlices : mSane mMo_isSlices 0 := ⟨rfl, by decide, by decide +kernel, by decide⟩
theorem sn_mMo_isFlour : mSane mMo_isFlour 0 := ⟨rfl, by decide, by decide +kernel, by decide⟩
theorem sn_mMo_isOf : mSane mMo_isOf 0 := ⟨rfl, by decide, by decide +kernel, by decide⟩
theorem sn_mMo_isFrom : mSane mMo_isFrom 0 := ⟨rfl, by decide, by decide +kernel, by decide⟩
theorem sn_mMo_isTo : mSane mMo_isTo 0 := ⟨rfl, by decide, by decide +kernel, by decide⟩
theorem sn_mMo_isFor : mSane mMo_isFor 0 := ⟨rfl, by decide, by decide +kernel, by decide⟩
theorem sn_mMo_stepWord : mSane mMo_stepWord 0 := ⟨rfl, by decide, by decide +kernel, by decide⟩
theorem sn_mMo_isPromise : mSane mMo_isPromise 0 := ⟨rfl, by decide, by decide +kernel, by decide⟩
theorem sn_mMo_testWord : mSane mMo_testWord 0 := ⟨rfl, by decide, by decide +kernel, by decide⟩
theorem sn_mMo_isEnd : mSane mMo_isEnd 0 := ⟨rfl, by decide, by decide +kernel, by decide⟩
theorem sn_mMo_wrong : mSane mMo_wrong 0 := ⟨rfl, by decide, by decide +kernel, by decide⟩
theorem sn_mMo_personNamed : mSane mMo_personNamed 1 := ⟨rfl, by decide, by decide +kernel, by decide⟩
theorem sn_mMo_named : mSane mMo_named 3 := ⟨rfl, by decide, by decide +kernel, by decide⟩
theorem sn_mMo_ovenNamed : mSane mMo_ovenNamed 1 := ⟨rfl, by decide, by decide +kernel, by decide⟩
theorem sn_mMo_loafNamed : mSane mMo_loafNamed 1 := ⟨rfl, by decide, by decide +kernel, by decide⟩
theorem sn_mMo_count : mSane mMo_count 2 := ⟨rfl, by decide, by decide +kernel, by decide⟩
theorem sn_mMo_isIn : mSane mMo_isIn 3 := ⟨rfl, by decide, by decide +kernel, by decide⟩
theorem sn_mMo_readOven : mSane mMo_readOven 0 := ⟨rfl, by decide, by decide +kernel, by decide⟩
theorem sn_mMo_readLoaf : mSane mMo_readLoaf 0 := ⟨rfl, by decide, by decide +kernel, by decide⟩
theorem sn_mMo_must : mSane mMo_must 1 := ⟨rfl, by decide, by decide +kernel, by decide⟩
theorem sn_mMo_readTold : mSane mMo_readTold 2 := ⟨rfl, by decide, by decide +kernel, by decide⟩
theorem sn_mMo_told : mSane mMo_told 2 := ⟨rfl, by decide, by decide +kernel, by decide⟩
theorem sn_mMo_readPromise : mSane mMo_readPromise 0 := ⟨rfl, by decide, by decide +kernel, by decide⟩
theorem sn_mMo_readPart : mSane mMo_readPart 2 := ⟨rfl, by decide, by decide +kernel, by decide⟩
theorem sn_mMo_isSign : mSane mMo_isSign 1 := ⟨rfl, by decide, by decide +kernel, by decide⟩
theorem sn_mMo_isWell : mSane mMo_isWell 0 := ⟨rfl, by decide, by decide +kernel, by decide⟩
theorem sn_mMo_copy : mSane mMo_copy 2 := ⟨rfl, by decide, by decide +kernel, by decide⟩
theorem sn_mMo_days : mSane mMo_days 1 := ⟨rfl, by decide, by decide +kernel, by decide⟩
theorem sn_mMo_readStep : mSane mMo_readStep 1 := ⟨rfl, by decide, by decide +kernel, by decide⟩
theorem sn_mMo_readRest : mSane mMo_readRest 1 := ⟨rfl, by decide, by decide +kernel, by decide⟩
theorem sn_mMo_readTest : mSane mMo_readTest 1 := ⟨rfl, by decide, by decide +kernel, by decide⟩
theorem sn_mMo_many : mSane mMo_many 1 := ⟨rfl, by decide, by decide +kernel, by decide⟩
theorem sn_mMo_bakedSet : mSane mMo_bakedSet 0 := ⟨rfl, by decide, by decide +kernel, by decide⟩
theorem sn_mMo_isBaked : mSane mMo_isBaked 1 := ⟨rfl, by decide, by decide +kernel, by decide⟩
theorem sn_mMo_refuse : mSane mMo_refuse 1 := ⟨rfl, by decide, by decide +kernel, by decide⟩
theorem sn_mMo_person : mSane mMo_person 2 := ⟨rfl, by decide, by decide +kernel, by decide⟩
theorem sn_mMo_isPersonAt : mSane mMo_isPersonAt 1 := ⟨rfl, by decide, by decide +kernel, by decide⟩
theorem sn_mMo_loaf : mSane mMo_loaf 2 := ⟨rfl, by decide, by decide +kernel, by decide⟩
theorem sn_mMo_isLoafAt : mSane mMo_isLoafAt 1 := ⟨rfl, by decide, by decide +kernel, by decide⟩
theorem sn_mMo_isPaper : mSane mMo_isPaper 1 := ⟨rfl, by decide, by decide +kernel, by decide⟩
theorem sn_mMo_promise : mSane mMo_promise 2 := ⟨rfl, by decide, by decide +kernel, by decide⟩
theorem sn_mMo_isPromiseAt : mSane mMo_isPromiseAt 1 := ⟨rfl, by decide, by decide +kernel, by decide⟩
theorem sn_mMo_part : mSane mMo_part 1 := ⟨rfl, by decide, by decide +kernel, by decide⟩
theorem sn_mMo_holds : mSane mMo_holds 2 := ⟨rfl, by decide, by decide +kernel, by decide⟩
theorem sn_mMo_holdsOf : mSane mMo_holdsOf 2 := ⟨rfl, by decide, by decide +kernel, by decide⟩
theorem sn_mMo_isOfLoaf : mSane mMo_isOfLoaf 2 := ⟨rfl, by decide, by decide +kernel, by decide⟩
theorem sn_mMo_isMade : mSane mMo_isMade 1 := ⟨rfl, by decide, by decide +kernel, by decide⟩
theorem sn_mMo_deep : mSane mMo_deep 1 := ⟨rfl, by decide, by decide +kernel, by decide⟩
theorem sn_mMo_deepens : mSane mMo_deepens 0 := ⟨rfl, by decide, by decide +kernel, by decide⟩
theorem sn_mMo_depth : mSane mMo_depth 1 := ⟨rfl, by decide, by decide +kernel, by decide⟩
theorem sn_mMo_first : mSane mMo_first 3 := ⟨rfl, by decide, by decide +kernel, by decide⟩
theorem sn_mMo_turnOf : mSane mMo_turnOf 2 := ⟨rfl, by decide, by decide +kernel, by decide⟩
theorem sn_mMo_line : mSane mMo_line 2 := ⟨rfl, by decide, by decide +kernel, by decide⟩
theorem sn_mMo_lines : mSane mMo_lines 1 := ⟨rfl, by decide, by decide +kernel, by decide⟩
theorem sn_mMo_whose : mSane mMo_whose 3 := ⟨rfl, by decide, by decide +kernel, by decide⟩
theorem sn_mMo_deals : mSane mMo_deals 2 := ⟨rfl, by decide, by decide +kernel, by decide⟩
theorem sn_mMo_comes : mSane mMo_comes 2 := ⟨rfl, by decide, by decide +kernel, by decide⟩
theorem sn_mMo_gets : mSane mMo_gets 3 := ⟨rfl, by decide, by decide +kernel, by decide⟩
theorem sn_mMo_getsOf : mSane mMo_getsOf 3 := ⟨rfl, by decide, by decide +kernel, by decide⟩
theorem sn_mMo_shame : mSane mMo_shame 2 := ⟨rfl, by decide, by decide +kernel, by decide⟩
theorem sn_mMo_unmet : mSane mMo_unmet 2 := ⟨rfl, by decide, by decide +kernel, by decide⟩
theorem sn_mMo_owesOf : mSane mMo_owesOf 2 := ⟨rfl, by decide, by decide +kernel, by decide⟩
theorem sn_mMo_mean : mSane mMo_mean 3 := ⟨rfl, by decide, by decide +kernel, by decide⟩
theorem sn_mMo_fraction : mSane mMo_fraction 2 := ⟨rfl, by decide, by decide +kernel, by decide⟩
theorem sn_mMo_between : mSane mMo_between 2 := ⟨rfl, by decide, by decide +kernel, by decide⟩
theorem sn_mMo_owing : mSane mMo_owing 1 := ⟨rfl, by decide, by decide +kernel, by decide⟩
theorem sn_mMo_net : mSane mMo_net 1 := ⟨rfl, by decide, by decide +kernel, by decide⟩
theorem sn_mMo_netOf : mSane mMo_netOf 1 := ⟨rfl, by decide, by decide +kernel, by decide⟩
theorem sn_mMo_handOvers : mSane mMo_handOvers 0 := ⟨rfl, by decide, by decide +kernel, by decide⟩
theorem sn_mMo_has : mSane mMo_has 2 := ⟨rfl, by decide, by decide +kernel, by decide⟩
theorem sn_mMo_ring : mSane mMo_ring 0 := ⟨rfl, by decide, by decide +kernel, by decide⟩
theorem sn_mMo_goesRound : mSane mMo_goesRound 3 := ⟨rfl, by decide, by decide +kernel, by decide⟩
theorem sn_mMo_ringAt : mSane mMo_ringAt 1 := ⟨rfl, by decide, by decide +kernel, by decide⟩
theorem sn_mMo_saved : mSane mMo_saved 3 := ⟨rfl, by decide, by decide +kernel, by decide⟩
theorem sn_mMo_isOpen : mSane mMo_isOpen 1 := ⟨rfl, by decide, by decide +kernel, by decide⟩
theorem sn_mMo_faces : mSane mMo_faces 0 := ⟨rfl, by decide, by decide +kernel, by decide⟩
theorem sn_mMo_isHeld : mSane mMo_isHeld 1 := ⟨rfl, by decide, by decide +kernel, by decide⟩
theorem sn_mMo_keeps : mSane mMo_keeps 3 := ⟨rfl, by decide, by decide +kernel, by decide⟩
theorem sn_mMo_isTray : mSane mMo_isTray 1 := ⟨rfl, by decide, by decide +kernel, by decide⟩
theorem sn_mMo_numberOf : mSane mMo_numberOf 2 := ⟨rfl, by decide, by decide +kernel, by decide⟩
theorem sn_mMo_burst : mSane mMo_burst 0 := ⟨rfl, by decide, by decide +kernel, by decide⟩
theorem sn_mMo_cuts : mSane mMo_cuts 5 := ⟨rfl, by decide, by decide +kernel, by decide⟩
theorem sn_mMo_auction : mSane mMo_auction 3 := ⟨rfl, by decide, by decide +kernel, by decide⟩
theorem sn_mMo_make : mSane mMo_make 5 := ⟨rfl, by decide, by decide +kernel, by decide⟩
theorem sn_mMo_makes : mSane mMo_makes 5 := ⟨rfl, by decide, by decide +kernel, by decide⟩
theorem sn_mMo_letGo : mSane mMo_letGo 1 := ⟨rfl, by decide, by decide +kernel, by decide⟩
theorem sn_mMo_breaks : mSane mMo_breaks 1 := ⟨rfl, by decide, by decide +kernel, by decide⟩
theorem sn_mMo_bake : mSane mMo_bake 1 := ⟨rfl, by decide, by decide +kernel, by decide⟩
theorem sn_mMo_bakes : mSane mMo_bakes 1 := ⟨rfl, by decide, by decide +kernel, by decide⟩
theorem sn_mMo_isWetOven : mSane mMo_isWetOven 1 := ⟨rfl, by decide, by decide +kernel, by decide⟩
theorem sn_mMo_pass : mSane mMo_pass 1 := ⟨rfl, by decide, by decide +kernel, by decide⟩
theorem sn_mMo_eat : mSane mMo_eat 2 := ⟨rfl, by decide, by decide +kernel, by decide⟩
theorem sn_mMo_eats : mSane mMo_eats 2 := ⟨rfl, by decide, by decide +kernel, by decide⟩
theorem sn_mMo_pay : mSane mMo_pay 3 := ⟨rfl, by decide, by decide +kernel, by decide⟩
theorem sn_mMo_pays : mSane mMo_pays 3 := ⟨rfl, by decide, by decide +kernel, by decide⟩
theorem sn_mMo_live : mSane mMo_live 1 := ⟨rfl, by decide, by decide +kernel, by decide⟩
theorem sn_mMo_lives : mSane mMo_lives 1 := ⟨rfl, by decide, by decide +kernel, by decide⟩
theorem sn_mMo_doAll : mSane mMo_doAll 2 := ⟨rfl, by decide, by decide +kernel, by decide⟩
theorem sn_mMo_doOne : mSane mMo_doOne 1 := ⟨rfl, by decide, by decide +kernel, by decide⟩
theorem sn_mMo_does : mSane mMo_does 1 := ⟨rfl, by decide, by decide +kernel, by decide⟩
theorem sn_mMo_waits : mSane mMo_waits 1 := ⟨rfl, by decide, by decide +kernel, by decide⟩
theorem sn_mMo_draw : mSane mMo_draw 0 := ⟨rfl, by decide, by decide +kernel, by decide⟩
theorem sn_mMo_isSo : mSane mMo_isSo 1 := ⟨rfl, by decide, by decide +kernel, by decide⟩
theorem sn_mMo_lived : mSane mMo_lived 1 := ⟨rfl, by decide, by decide +kernel, by decide⟩
theorem sn_mMo_odds : mSane mMo_odds 4 := ⟨rfl, by decide, by decide +kernel, by decide⟩
theorem sn_mMo_mark : mSane mMo_mark 0 := ⟨rfl, by decide, by decide +kernel, by decide⟩
theorem sn_mMo_back : mSane mMo_back 0 := ⟨rfl, by decide, by decide +kernel, by decide⟩
theorem nd0_11 : mP 0 (11, .inl (0, 0)) := mP_of (own := "PaperBread$Days") [(2, 0)] rfl rfl rfl ⟨_, _, _, rfl, by decide⟩
theorem nd0_15 : mP 0 (15, .inl (0, 1)) := mP_of (own := "PaperBread$Days") [(2, 1)] rfl rfl rfl ⟨_, _, _, rfl, by decide⟩
theorem nd0_18 : mP 0 (18, .inl (0, 2)) := mP_of (own := "PaperBread$Days") [(2, 2)] rfl rfl rfl ⟨_, _, _, rfl, by decide⟩
theorem nd0_22 : mP 0 (22, .inl (0, 3)) := mP_of (own := "PaperBread$Days") [(2, 4)] rfl rfl rfl ⟨_, _, _, rfl, by decide⟩
theorem nd0_25 : mP 0 (25, .inl (0, 4)) := mP_of (own := "PaperBread$Days") [(2, 6)] rfl rfl rfl ⟨_, _, _, rfl, by decide⟩
theorem nd0_28 : mP 0 (28, .inl (0, 5)) := mP_of (own := "PaperBread$Days") [(2, 9)] rfl rfl rfl ⟨_, _, _, rfl, by decide⟩
theorem nd0_32 : mP 0 (32, .inr (.inr (.inr (.inr 0)))) := mP_of (own := "PaperBread$Days") [(4, 84), (3, 123), (3, 122), (1, 18)] rfl rfl rfl trivial
theorem nd0_40 : mP 0 (40, .inr (.inl (false, mDa_add, 2))) := mP_of (own := "PaperBread$Days") [(4, 108), (1, 13), (4, 111), (4, 109), (4, 110)] rfl rfl rfl sn_mDa_add
theorem nd0 : ∀ q ∈ mRL0, mP 0 q := List.forall_mem_cons.mpr ⟨nd0_11, List.forall_mem_cons.mpr ⟨nd0_15, List.forall_mem_cons.mpr ⟨nd0_18, List.forall_mem_cons.mpr ⟨nd0_22, List.forall_mem_cons.mpr ⟨nd0_25, List.forall_mem_cons.mpr ⟨nd0_28, List.forall_mem_cons.mpr ⟨nd0_32, List.forall_mem_cons.mpr ⟨nd0_40, fun _ h => absurd h List.not_mem_nil⟩⟩⟩⟩⟩⟩⟩⟩
theorem nd1_12 : mP 1 (12, .inl (1, 0)) := mP_of (own := "PaperBread$Living") [(2, 188)] rfl rfl rfl ⟨_, _, _, rfl, by decide⟩
theorem nd1_20 : mP 1 (20, .inl (1, 1)) := mP_of (own := "PaperBread$Living") [(2, 189)] rfl rfl rfl ⟨_, _, _, rfl, by decide⟩
theorem nd1_24 : mP 1 (24, .inl (1, 2)) := mP_of (own := "PaperBread$Living") [(2, 190)] rfl rfl rfl ⟨_, _, _, rfl, by decide⟩
theorem nd1_28 : mP 1 (28, .inl (1, 3)) := mP_of (own := "PaperBread$Living") [(2, 191)] rfl rfl rfl ⟨_, _, _, rfl, by decide⟩
theorem nd1_31 : mP 1 (31, .inl (1, 4)) := mP_of (own := "PaperBread$Living") [(2, 193)] rfl rfl rfl ⟨_, _, _, rfl, by decide⟩
theorem nd1_34 : mP 1 (34, .inl (1, 5)) := mP_of (own := "PaperBread$Living") [(2, 195)] rfl rfl rfl ⟨_, _, _, rfl, by decide⟩
theorem nd1_37 : mP 1 (37, .inl (1, 6)) := mP_of (own := "PaperBread$Living") [(2, 197)] rfl rfl rfl ⟨_, _, _, rfl, by decide⟩
theorem nd1_40 : mP 1 (40, .inl (1, 7)) := mP_of (own := "PaperBread$Living") [(2, 199)] rfl rfl rfl ⟨_, _, _, rfl, by decide⟩
theorem nd1_43 : mP 1 (43, .inl (1, 8)) := mP_of (own := "PaperBread$Living") [(2, 201)] rfl rfl rfl ⟨_, _, _, rfl, by decide⟩
theorem nd1_47 : mP 1 (47, .inr (.inr (.inl (1000000)))) := mP_of (own := "PaperBread$Living") [(5, 230)] rfl rfl rfl trivial
theorem nd1_48 : mP 1 (48, .inl (8, 2)) := mP_of (own := "PaperBread$Living") [(2, 34)] rfl rfl rfl ⟨_, _, _, rfl, by decide⟩
theorem nd1_54 : mP 1 (54, .inl (0, 3)) := mP_of (own := "PaperBread$Living") [(2, 5)] rfl rfl rfl ⟨_, _, _, rfl, by decide⟩
theorem nd1_57 : mP 1 (57, .inr (.inl (false, mLi_goOn, 2))) := mP_of (own := "PaperBread$Living") [(5, 231), (1, 16), (5, 234), (5, 233), (0, 28)] rfl rfl rfl sn_mLi_goOn
theorem nd1_61 : mP 1 (61, .inr (.inl (false, mDa_cell, 2))) := mP_of (own := "PaperBread$Living") [(5, 235), (1, 13), (5, 238), (5, 236), (5, 237)] rfl rfl rfl sn_mDa_cell
theorem nd1_67 : mP 1 (67, .inr (.inl (false, mLi_behindEnd, 2))) := mP_of (own := "PaperBread$Living") [(5, 239), (1, 16), (6, 2), (6, 1), (0, 29)] rfl rfl rfl sn_mLi_behindEnd
theorem nd1_71 : mP 1 (71, .inr (.inl (true, mLi_isTrue, 2))) := mP_of (own := "PaperBread$Living") [(6, 3), (1, 16), (6, 5), (6, 4)] rfl rfl rfl sn_mLi_isTrue
theorem nd1_75 : mP 1 (75, .inr (.inl (false, mLi_isDone, 3))) := mP_of (own := "PaperBread$Living") [(6, 12), (1, 16), (6, 15), (6, 14), (0, 30)] rfl rfl rfl sn_mLi_isDone
theorem nd1_79 : mP 1 (79, .inl (8, 16)) := mP_of (own := "PaperBread$Living") [(2, 72)] rfl rfl rfl ⟨_, _, _, rfl, by decide⟩
theorem nd1_82 : mP 1 (82, .inr (.inl (true, mLi_compares, 3))) := mP_of (own := "PaperBread$Living") [(6, 6), (1, 16), (6, 8), (6, 7)] rfl rfl rfl sn_mLi_compares
theorem nd1_86 : mP 1 (86, .inr (.inl (false, mTw_hasPerson, 1))) := mP_of (own := "PaperBread$Living") [(6, 9), (1, 10), (4, 41), (4, 39), (4, 40)] rfl rfl rfl sn_mTw_hasPerson
theorem nd1_90 : mP 1 (90, .inl (8, 4)) := mP_of (own := "PaperBread$Living") [(2, 39)] rfl rfl rfl ⟨_, _, _, rfl, by decide⟩
theorem nd1_93 : mP 1 (93, .inr (.inl (false, mTw_isBaked, 1))) := mP_of (own := "PaperBread$Living") [(6, 10), (1, 10), (4, 173), (4, 171), (4, 172)] rfl rfl rfl sn_mTw_isBaked
theorem nd1_96 : mP 1 (96, .inr (.inl (false, mTw_isWet, 1))) := mP_of (own := "PaperBread$Living") [(6, 11), (1, 10), (5, 194), (5, 192), (5, 193)] rfl rfl rfl sn_mTw_isWet
theorem nd1_99 : mP 1 (99, .inr (.inl (false, mTw_handOn, 5))) := mP_of (own := "PaperBread$Living") [(6, 16), (1, 10), (4, 53), (4, 51), (4, 52)] rfl rfl rfl sn_mTw_handOn
theorem nd1_103 : mP 1 (103, .inr (.inl (false, mTw_release, 1))) := mP_of (own := "PaperBread$Living") [(6, 17), (1, 10), (5, 175), (5, 173), (5, 174)] rfl rfl rfl sn_mTw_release
theorem nd1_106 : mP 1 (106, .inr (.inl (false, mLi_hasBaked, 2))) := mP_of (own := "PaperBread$Living") [(6, 18), (1, 16), (6, 21), (6, 20), (0, 31)] rfl rfl rfl sn_mLi_hasBaked
theorem nd1_109 : mP 1 (109, .inr (.inl (false, mLi_hasWaited, 2))) := mP_of (own := "PaperBread$Living") [(6, 26), (1, 16), (6, 29), (6, 28), (0, 32)] rfl rfl rfl sn_mLi_hasWaited
theorem nd1_112 : mP 1 (112, .inr (.inl (false, mTw_feast, 2))) := mP_of (own := "PaperBread$Living") [(6, 35), (1, 10), (5, 212), (5, 210), (5, 211)] rfl rfl rfl sn_mTw_feast
theorem nd1_115 : mP 1 (115, .inr (.inl (false, mTw_handMoney, 3))) := mP_of (own := "PaperBread$Living") [(6, 36), (1, 10), (5, 221), (5, 219), (5, 220)] rfl rfl rfl sn_mTw_handMoney
theorem nd1_118 : mP 1 (118, .inr (.inl (false, mTw_canBake, 1))) := mP_of (own := "PaperBread$Living") [(6, 22), (1, 10), (5, 185), (5, 183), (5, 184)] rfl rfl rfl sn_mTw_canBake
theorem nd1_121 : mP 1 (121, .inr (.inl (false, mTw_rainsOn, 1))) := mP_of (own := "PaperBread$Living") [(6, 23), (1, 10), (5, 190), (5, 188), (5, 189)] rfl rfl rfl sn_mTw_rainsOn
theorem nd1_124 : mP 1 (124, .inr (.inl (false, mSh_settle, 3))) := mP_of (own := "PaperBread$Living") [(6, 24), (1, 14), (5, 27), (5, 25), (5, 26)] rfl rfl rfl sn_mSh_settle
theorem nd1_128 : mP 1 (128, .inr (.inl (false, mTw_bringOut, 2))) := mP_of (own := "PaperBread$Living") [(6, 25), (1, 10), (5, 198), (5, 196), (5, 197)] rfl rfl rfl sn_mTw_bringOut
theorem nd1_132 : mP 1 (132, .inl (8, 18)) := mP_of (own := "PaperBread$Living") [(2, 77)] rfl rfl rfl ⟨_, _, _, rfl, by decide⟩
theorem nd1_135 : mP 1 (135, .inl (8, 14)) := mP_of (own := "PaperBread$Living") [(2, 65)] rfl rfl rfl ⟨_, _, _, rfl, by decide⟩
theorem nd1_138 : mP 1 (138, .inr (.inl (false, mLi_nextDraw, 0))) := mP_of (own := "PaperBread$Living") [(6, 30), (1, 16), (6, 33), (6, 32), (0, 33)] rfl rfl rfl sn_mLi_nextDraw
theorem nd1_142 : mP 1 (142, .inl (8, 6)) := mP_of (own := "PaperBread$Living") [(2, 44)] rfl rfl rfl ⟨_, _, _, rfl, by decide⟩
theorem nd1_145 : mP 1 (145, .inr (.inr (.inl (65536)))) := mP_of (own := "PaperBread$Living") [(6, 34)] rfl rfl rfl trivial
theorem nd1 : ∀ q ∈ mRL1, mP 1 q := List.forall_mem_cons.mpr ⟨nd1_12, List.forall_mem_cons.mpr ⟨nd1_20, List.forall_mem_cons.mpr ⟨nd1_24, List.forall_mem_cons.mpr ⟨nd1_28, List.forall_mem_cons.mpr ⟨nd1_31, List.forall_mem_cons.mpr ⟨nd1_34, List.forall_mem_cons.mpr ⟨nd1_37, List.forall_mem_cons.mpr ⟨nd1_40, List.forall_mem_cons.mpr ⟨nd1_43, List.forall_mem_cons.mpr ⟨nd1_47, List.forall_mem_cons.mpr ⟨nd1_48, List.forall_mem_cons.mpr ⟨nd1_54, List.forall_mem_cons.mpr ⟨nd1_57, List.forall_mem_cons.mpr ⟨nd1_61, List.forall_mem_cons.mpr ⟨nd1_67, List.forall_mem_cons.mpr ⟨nd1_71, List.forall_mem_cons.mpr ⟨nd1_75, List.forall_mem_cons.mpr ⟨nd1_79, List.forall_mem_cons.mpr ⟨nd1_82, List.forall_mem_cons.mpr ⟨nd1_86, List.forall_mem_cons.mpr ⟨nd1_90, List.forall_mem_cons.mpr ⟨nd1_93, List.forall_mem_cons.mpr ⟨nd1_96, List.forall_mem_cons.mpr ⟨nd1_99, List.forall_mem_cons.mpr ⟨nd1_103, List.forall_mem_cons.mpr ⟨nd1_106, List.forall_mem_cons.mpr ⟨nd1_109, List.forall_mem_cons.mpr ⟨nd1_112, List.forall_mem_cons.mpr ⟨nd1_115, List.forall_mem_cons.mpr ⟨nd1_118, List.forall_mem_cons.mpr ⟨nd1_121, List.forall_mem_cons.mpr ⟨nd1_124, List.forall_mem_cons.mpr ⟨nd1_128, List.forall_mem_cons.mpr ⟨nd1_132, List.forall_mem_cons.mpr ⟨nd1_135, List.forall_mem_cons.mpr ⟨nd1_138, List.forall_mem_cons.mpr ⟨nd1_142, List.forall_mem_cons.mpr ⟨nd1_145, fun _ h => absurd h List.not_mem_nil⟩⟩⟩⟩⟩⟩⟩⟩⟩⟩⟩⟩⟩⟩⟩⟩⟩⟩⟩⟩⟩⟩⟩⟩⟩⟩⟩⟩⟩⟩⟩⟩⟩⟩⟩⟩⟩⟩
theorem nd2_9 : mP 2 (9, .inl (2, 0)) := mP_of (own := "PaperBread$Names") [(1, 170)] rfl rfl rfl ⟨_, _, _, rfl, by decide⟩
theorem nd2_15 : mP 2 (15, .inr (.inl (true, mAr_filll, 2))) := mP_of (own := "PaperBread$Names") [(3, 153), (1, 3), (3, 155), (3, 154)] rfl rfl rfl sn_mAr_filll
theorem nd2_21 : mP 2 (21, .inr (.inr (.inr (.inr 0)))) := mP_of (own := "PaperBread$Names") [(4, 74), (3, 123), (3, 122), (1, 18)] rfl rfl rfl trivial
theorem nd2_27 : mP 2 (27, .inr (.inr (.inr (.inr 1)))) := mP_of (own := "PaperBread$Names") [(4, 12)] rfl rfl rfl trivial
theorem nd2 : ∀ q ∈ mRL2, mP 2 q := List.forall_mem_cons.mpr ⟨nd2_9, List.forall_mem_cons.mpr ⟨nd2_15, List.forall_mem_cons.mpr ⟨nd2_21, List.forall_mem_cons.mpr ⟨nd2_27, fun _ h => absurd h List.not_mem_nil⟩⟩⟩⟩
theorem nd3_11 : mP 3 (11, .inl (3, 0)) := mP_of (own := "PaperBread$Netting") [(2, 162)] rfl rfl rfl ⟨_, _, _, rfl, by decide⟩
theorem nd3_15 : mP 3 (15, .inl (3, 1)) := mP_of (own := "PaperBread$Netting") [(2, 163)] rfl rfl rfl ⟨_, _, _, rfl, by decide⟩
theorem nd3_18 : mP 3 (18, .inl (3, 2)) := mP_of (own := "PaperBread$Netting") [(2, 164)] rfl rfl rfl ⟨_, _, _, rfl, by decide⟩
theorem nd3_21 : mP 3 (21, .inl (3, 3)) := mP_of (own := "PaperBread$Netting") [(2, 165)] rfl rfl rfl ⟨_, _, _, rfl, by decide⟩
theorem nd3_24 : mP 3 (24, .inl (8, 13)) := mP_of (own := "PaperBread$Netting") [(2, 59)] rfl rfl rfl ⟨_, _, _, rfl, by decide⟩
theorem nd3_30 : mP 3 (30, .inl (8, 1)) := mP_of (own := "PaperBread$Netting") [(2, 29)] rfl rfl rfl ⟨_, _, _, rfl, by decide⟩
theorem nd3_34 : mP 3 (34, .inr (.inl (false, mPr_surplus, 1))) := mP_of (own := "PaperBread$Netting") [(5, 63), (1, 12), (5, 54), (5, 52), (5, 53)] rfl rfl rfl sn_mPr_surplus
theorem nd3_40 : mP 3 (40, .inr (.inr (.inr (.inr 2)))) := mP_of (own := "PaperBread$Netting") [(5, 64), (3, 168), (1, 19), (3, 169)] rfl rfl rfl trivial
theorem nd3_46 : mP 3 (46, .inr (.inl (false, mNe_measure, 1))) := mP_of (own := "PaperBread$Netting") [(5, 73), (1, 15), (5, 76), (5, 75), (0, 23)] rfl rfl rfl sn_mNe_measure
theorem nd3_50 : mP 3 (50, .inl (4, 8)) := mP_of (own := "PaperBread$Netting") [(1, 211)] rfl rfl rfl ⟨_, _, _, rfl, by decide⟩
theorem nd3_53 : mP 3 (53, .inr (.inl (false, mPr_stands, 1))) := mP_of (own := "PaperBread$Netting") [(5, 78), (1, 12), (5, 10), (5, 8), (5, 9)] rfl rfl rfl sn_mPr_stands
theorem nd3_57 : mP 3 (57, .inl (4, 3)) := mP_of (own := "PaperBread$Netting") [(1, 195)] rfl rfl rfl ⟨_, _, _, rfl, by decide⟩
theorem nd3_60 : mP 3 (60, .inl (4, 2)) := mP_of (own := "PaperBread$Netting") [(1, 190)] rfl rfl rfl ⟨_, _, _, rfl, by decide⟩
theorem nd3_63 : mP 3 (63, .inr (.inl (false, mNe_way, 2))) := mP_of (own := "PaperBread$Netting") [(5, 79), (1, 15), (5, 82), (5, 81), (0, 24)] rfl rfl rfl sn_mNe_way
theorem nd3_66 : mP 3 (66, .inr (.inl (false, mNe_nextOnWay, 4))) := mP_of (own := "PaperBread$Netting") [(5, 83), (1, 15), (5, 86), (5, 85), (0, 25)] rfl rfl rfl sn_mNe_nextOnWay
theorem nd3_70 : mP 3 (70, .inl (3, 4)) := mP_of (own := "PaperBread$Netting") [(2, 167)] rfl rfl rfl ⟨_, _, _, rfl, by decide⟩
theorem nd3_73 : mP 3 (73, .inr (.inl (true, mAr_fill, 2))) := mP_of (own := "PaperBread$Netting") [(5, 77), (1, 3), (1, 36), (1, 35)] rfl rfl rfl sn_mAr_fill
theorem nd3 : ∀ q ∈ mRL3, mP 3 q := List.forall_mem_cons.mpr ⟨nd3_11, List.forall_mem_cons.mpr ⟨nd3_15, List.forall_mem_cons.mpr ⟨nd3_18, List.forall_mem_cons.mpr ⟨nd3_21, List.forall_mem_cons.mpr ⟨nd3_24, List.forall_mem_cons.mpr ⟨nd3_30, List.forall_mem_cons.mpr ⟨nd3_34, List.forall_mem_cons.mpr ⟨nd3_40, List.forall_mem_cons.mpr ⟨nd3_46, List.forall_mem_cons.mpr ⟨nd3_50, List.forall_mem_cons.mpr ⟨nd3_53, List.forall_mem_cons.mpr ⟨nd3_57, List.forall_mem_cons.mpr ⟨nd3_60, List.forall_mem_cons.mpr ⟨nd3_63, List.forall_mem_cons.mpr ⟨nd3_66, List.forall_mem_cons.mpr ⟨nd3_70, List.forall_mem_cons.mpr ⟨nd3_73, fun _ h => absurd h List.not_mem_nil⟩⟩⟩⟩⟩⟩⟩⟩⟩⟩⟩⟩⟩⟩⟩⟩⟩
theorem nd4_9 : mP 4 (9, .inl (4, 0)) := mP_of (own := "PaperBread$Promises") [(1, 180)] rfl rfl rfl ⟨_, _, _, rfl, by decide⟩
theorem nd4_15 : mP 4 (15, .inl (4, 1)) := mP_of (own := "PaperBread$Promises") [(1, 184)] rfl rfl rfl ⟨_, _, _, rfl, by decide⟩
theorem nd4_18 : mP 4 (18, .inl (4, 2)) := mP_of (own := "PaperBread$Promises") [(1, 188)] rfl rfl rfl ⟨_, _, _, rfl, by decide⟩
theorem nd4_21 : mP 4 (21, .inl (4, 3)) := mP_of (own := "PaperBread$Promises") [(1, 193)] rfl rfl rfl ⟨_, _, _, rfl, by decide⟩
theorem nd4_24 : mP 4 (24, .inl (4, 4)) := mP_of (own := "PaperBread$Promises") [(1, 198)] rfl rfl rfl ⟨_, _, _, rfl, by decide⟩
theorem nd4_27 : mP 4 (27, .inl (4, 5)) := mP_of (own := "PaperBread$Promises") [(1, 201)] rfl rfl rfl ⟨_, _, _, rfl, by decide⟩
theorem nd4_31 : mP 4 (31, .inl (4, 6)) := mP_of (own := "PaperBread$Promises") [(1, 205)] rfl rfl rfl ⟨_, _, _, rfl, by decide⟩
theorem nd4_34 : mP 4 (34, .inl (4, 7)) := mP_of (own := "PaperBread$Promises") [(1, 207)] rfl rfl rfl ⟨_, _, _, rfl, by decide⟩
theorem nd4_37 : mP 4 (37, .inl (4, 8)) := mP_of (own := "PaperBread$Promises") [(1, 208)] rfl rfl rfl ⟨_, _, _, rfl, by decide⟩
theorem nd4_41 : mP 4 (41, .inr (.inr (.inr (.inr 0)))) := mP_of (own := "PaperBread$Promises") [(4, 79), (3, 123), (3, 122), (1, 18)] rfl rfl rfl trivial
theorem nd4_47 : mP 4 (47, .inr (.inl (false, mPr_has, 1))) := mP_of (own := "PaperBread$Promises") [(5, 11), (1, 12), (4, 181), (4, 179), (4, 180)] rfl rfl rfl sn_mPr_has
theorem nd4_51 : mP 4 (51, .inr (.inl (true, mAr_fill, 2))) := mP_of (own := "PaperBread$Promises") [(4, 205), (1, 3), (1, 36), (1, 35)] rfl rfl rfl sn_mAr_fill
theorem nd4_57 : mP 4 (57, .inr (.inr (.inr (.inr 2)))) := mP_of (own := "PaperBread$Promises") [(4, 206), (3, 168), (1, 19), (3, 169)] rfl rfl rfl trivial
theorem nd4_63 : mP 4 (63, .inr (.inl (false, mPr_stands, 1))) := mP_of (own := "PaperBread$Promises") [(5, 7), (1, 12), (5, 10), (5, 8), (5, 9)] rfl rfl rfl sn_mPr_stands
theorem nd4 : ∀ q ∈ mRL4, mP 4 q := List.forall_mem_cons.mpr ⟨nd4_9, List.forall_mem_cons.mpr ⟨nd4_15, List.forall_mem_cons.mpr ⟨nd4_18, List.forall_mem_cons.mpr ⟨nd4_21, List.forall_mem_cons.mpr ⟨nd4_24, List.forall_mem_cons.mpr ⟨nd4_27, List.forall_mem_cons.mpr ⟨nd4_31, List.forall_mem_cons.mpr ⟨nd4_34, List.forall_mem_cons.mpr ⟨nd4_37, List.forall_mem_cons.mpr ⟨nd4_41, List.forall_mem_cons.mpr ⟨nd4_47, List.forall_mem_cons.mpr ⟨nd4_51, List.forall_mem_cons.mpr ⟨nd4_57, List.forall_mem_cons.mpr ⟨nd4_63, fun _ h => absurd h List.not_mem_nil⟩⟩⟩⟩⟩⟩⟩⟩⟩⟩⟩⟩⟩⟩
theorem nd5_9 : mP 5 (9, .inl (5, 0)) := mP_of (own := "PaperBread$Share") [(2, 125)] rfl rfl rfl ⟨_, _, _, rfl, by decide⟩
theorem nd5_15 : mP 5 (15, .inl (5, 1)) := mP_of (own := "PaperBread$Share") [(2, 127)] rfl rfl rfl ⟨_, _, _, rfl, by decide⟩
theorem nd5_18 : mP 5 (18, .inl (5, 2)) := mP_of (own := "PaperBread$Share") [(2, 129)] rfl rfl rfl ⟨_, _, _, rfl, by decide⟩
theorem nd5_21 : mP 5 (21, .inl (5, 3)) := mP_of (own := "PaperBread$Share") [(2, 131)] rfl rfl rfl ⟨_, _, _, rfl, by decide⟩
theorem nd5_24 : mP 5 (24, .inl (5, 4)) := mP_of (own := "PaperBread$Share") [(2, 134)] rfl rfl rfl ⟨_, _, _, rfl, by decide⟩
theorem nd5_27 : mP 5 (27, .inl (5, 5)) := mP_of (own := "PaperBread$Share") [(2, 137)] rfl rfl rfl ⟨_, _, _, rfl, by decide⟩
theorem nd5_30 : mP 5 (30, .inr (.inl (true, mAr_fill, 2))) := mP_of (own := "PaperBread$Share") [(4, 190), (1, 3), (1, 36), (1, 35)] rfl rfl rfl sn_mAr_fill
theorem nd5_36 : mP 5 (36, .inl (5, 6)) := mP_of (own := "PaperBread$Share") [(2, 139)] rfl rfl rfl ⟨_, _, _, rfl, by decide⟩
theorem nd5_40 : mP 5 (40, .inr (.inl (false, mTw_hasLoaf, 1))) := mP_of (own := "PaperBread$Share") [(4, 191), (1, 10), (4, 164), (4, 162), (4, 163)] rfl rfl rfl sn_mTw_hasLoaf
theorem nd5_46 : mP 5 (46, .inl (8, 7)) := mP_of (own := "PaperBread$Share") [(2, 46)] rfl rfl rfl ⟨_, _, _, rfl, by decide⟩
theorem nd5_49 : mP 5 (49, .inl (8, 10)) := mP_of (own := "PaperBread$Share") [(2, 53)] rfl rfl rfl ⟨_, _, _, rfl, by decide⟩
theorem nd5_52 : mP 5 (52, .inl (8, 1)) := mP_of (own := "PaperBread$Share") [(2, 30)] rfl rfl rfl ⟨_, _, _, rfl, by decide⟩
theorem nd5_56 : mP 5 (56, .inl (4, 8)) := mP_of (own := "PaperBread$Share") [(1, 210)] rfl rfl rfl ⟨_, _, _, rfl, by decide⟩
theorem nd5_61 : mP 5 (61, .inl (4, 5)) := mP_of (own := "PaperBread$Share") [(1, 202)] rfl rfl rfl ⟨_, _, _, rfl, by decide⟩
theorem nd5_65 : mP 5 (65, .inl (4, 1)) := mP_of (own := "PaperBread$Share") [(1, 185)] rfl rfl rfl ⟨_, _, _, rfl, by decide⟩
theorem nd5_68 : mP 5 (68, .inl (4, 2)) := mP_of (own := "PaperBread$Share") [(1, 189)] rfl rfl rfl ⟨_, _, _, rfl, by decide⟩
theorem nd5_71 : mP 5 (71, .inl (4, 0)) := mP_of (own := "PaperBread$Share") [(1, 181)] rfl rfl rfl ⟨_, _, _, rfl, by decide⟩
theorem nd5_72 : mP 5 (72, .inl (4, 3)) := mP_of (own := "PaperBread$Share") [(1, 194)] rfl rfl rfl ⟨_, _, _, rfl, by decide⟩
theorem nd5_75 : mP 5 (75, .inr (.inr (.inr (.inr 3)))) := mP_of (own := "PaperBread$Share") [(4, 192), (3, 165), (1, 19), (3, 166)] rfl rfl rfl trivial
theorem nd5_81 : mP 5 (81, .inr (.inl (false, mSh_lineUp, 0))) := mP_of (own := "PaperBread$Share") [(4, 193), (1, 14), (4, 196), (4, 195), (0, 20)] rfl rfl rfl sn_mSh_lineUp
theorem nd5_84 : mP 5 (84, .inr (.inl (false, mSh_weigh, 2))) := mP_of (own := "PaperBread$Share") [(5, 28), (1, 14), (4, 189), (4, 187), (4, 188)] rfl rfl rfl sn_mSh_weigh
theorem nd5_88 : mP 5 (88, .inr (.inl (false, mTw_comesOf, 2))) := mP_of (own := "PaperBread$Share") [(5, 29), (1, 10), (4, 222), (4, 220), (4, 221)] rfl rfl rfl sn_mTw_comesOf
theorem nd5_92 : mP 5 (92, .inr (.inl (false, mSh_deal, 1))) := mP_of (own := "PaperBread$Share") [(5, 30), (1, 14), (4, 226), (4, 224), (4, 225)] rfl rfl rfl sn_mSh_deal
theorem nd5_96 : mP 5 (96, .inr (.inl (false, mTw_bakerOf, 1))) := mP_of (own := "PaperBread$Share") [(5, 31), (1, 10), (4, 238), (4, 236), (4, 237)] rfl rfl rfl sn_mTw_bakerOf
theorem nd5_100 : mP 5 (100, .inr (.inr (.inr (.inr 2)))) := mP_of (own := "PaperBread$Share") [(5, 32), (3, 168), (1, 19), (3, 169)] rfl rfl rfl trivial
theorem nd5_103 : mP 5 (103, .inr (.inl (false, mTw_hasPerson, 1))) := mP_of (own := "PaperBread$Share") [(5, 33), (1, 10), (4, 41), (4, 39), (4, 40)] rfl rfl rfl sn_mTw_hasPerson
theorem nd5_106 : mP 5 (106, .inl (8, 15)) := mP_of (own := "PaperBread$Share") [(2, 69)] rfl rfl rfl ⟨_, _, _, rfl, by decide⟩
theorem nd5_109 : mP 5 (109, .inr (.inl (false, mTw_isPaper, 1))) := mP_of (own := "PaperBread$Share") [(5, 107), (1, 10), (4, 168), (4, 166), (4, 167)] rfl rfl rfl sn_mTw_isPaper
theorem nd5_112 : mP 5 (112, .inr (.inl (false, mTw_isBaked, 1))) := mP_of (own := "PaperBread$Share") [(5, 108), (1, 10), (4, 173), (4, 171), (4, 172)] rfl rfl rfl sn_mTw_isBaked
theorem nd5_115 : mP 5 (115, .inr (.inl (false, mSh_gathered, 1))) := mP_of (own := "PaperBread$Share") [(5, 109), (1, 14), (5, 112), (5, 111), (0, 26)] rfl rfl rfl sn_mSh_gathered
theorem nd5_118 : mP 5 (118, .inr (.inl (false, mTw_flourOf, 1))) := mP_of (own := "PaperBread$Share") [(5, 113), (1, 10), (5, 116), (5, 114), (5, 115)] rfl rfl rfl sn_mTw_flourOf
theorem nd5 : ∀ q ∈ mRL5, mP 5 q := List.forall_mem_cons.mpr ⟨nd5_9, List.forall_mem_cons.mpr ⟨nd5_15, List.forall_mem_cons.mpr ⟨nd5_18, List.forall_mem_cons.mpr ⟨nd5_21, List.forall_mem_cons.mpr ⟨nd5_24, List.forall_mem_cons.mpr ⟨nd5_27, List.forall_mem_cons.mpr ⟨nd5_30, List.forall_mem_cons.mpr ⟨nd5_36, List.forall_mem_cons.mpr ⟨nd5_40, List.forall_mem_cons.mpr ⟨nd5_46, List.forall_mem_cons.mpr ⟨nd5_49, List.forall_mem_cons.mpr ⟨nd5_52, List.forall_mem_cons.mpr ⟨nd5_56, List.forall_mem_cons.mpr ⟨nd5_61, List.forall_mem_cons.mpr ⟨nd5_65, List.forall_mem_cons.mpr ⟨nd5_68, List.forall_mem_cons.mpr ⟨nd5_71, List.forall_mem_cons.mpr ⟨nd5_72, List.forall_mem_cons.mpr ⟨nd5_75, List.forall_mem_cons.mpr ⟨nd5_81, List.forall_mem_cons.mpr ⟨nd5_84, List.forall_mem_cons.mpr ⟨nd5_88, List.forall_mem_cons.mpr ⟨nd5_92, List.forall_mem_cons.mpr ⟨nd5_96, List.forall_mem_cons.mpr ⟨nd5_100, List.forall_mem_cons.mpr ⟨nd5_103, List.forall_mem_cons.mpr ⟨nd5_106, List.forall_mem_cons.mpr ⟨nd5_109, List.forall_mem_cons.mpr ⟨nd5_112, List.forall_mem_cons.mpr ⟨nd5_115, List.forall_mem_cons.mpr ⟨nd5_118, fun _ h => absurd h List.not_mem_nil⟩⟩⟩⟩⟩⟩⟩⟩⟩⟩⟩⟩⟩⟩⟩⟩⟩⟩⟩⟩⟩⟩⟩⟩⟩⟩⟩⟩⟩⟩⟩
theorem nd6_12 : mP 6 (12, .inl (6, 0)) := mP_of (own := "PaperBread$Texts") [(1, 150)] rfl rfl rfl ⟨_, _, _, rfl, by decide⟩
theorem nd6_20 : mP 6 (20, .inl (6, 1)) := mP_of (own := "PaperBread$Texts") [(1, 152)] rfl rfl rfl ⟨_, _, _, rfl, by decide⟩
theorem nd6_24 : mP 6 (24, .inr (.inl (false, mTw_clear, 0))) := mP_of (own := "PaperBread$Texts") [(3, 145), (1, 10), (3, 148), (3, 146), (3, 147)] rfl rfl rfl sn_mTw_clear
theorem nd6_29 : mP 6 (29, .inr (.inl (false, mTo_open, 1))) := mP_of (own := "PaperBread$Texts") [(3, 160), (1, 5), (3, 163), (3, 161), (3, 162)] rfl rfl rfl sn_mTo_open
theorem nd6_33 : mP 6 (33, .inr (.inl (false, mTo_goesOn, 0))) := mP_of (own := "PaperBread$Texts") [(3, 182), (1, 5), (3, 185), (3, 183), (3, 184)] rfl rfl rfl sn_mTo_goesOn
theorem nd6_37 : mP 6 (37, .inr (.inl (false, mTo_wordHere, 0))) := mP_of (own := "PaperBread$Texts") [(3, 186), (1, 5), (3, 189), (3, 187), (3, 188)] rfl rfl rfl sn_mTo_wordHere
theorem nd6_41 : mP 6 (41, .inr (.inl (false, mTe_readPerson, 1))) := mP_of (own := "PaperBread$Texts") [(3, 190), (1, 4), (3, 193), (3, 192), (0, 5)] rfl rfl rfl sn_mTe_readPerson
theorem nd6_45 : mP 6 (45, .inr (.inl (false, mTe_readOven, 1))) := mP_of (own := "PaperBread$Texts") [(4, 14), (1, 4), (4, 17), (4, 16), (0, 9)] rfl rfl rfl sn_mTe_readOven
theorem nd6_48 : mP 6 (48, .inr (.inl (false, mTe_readLoaf, 1))) := mP_of (own := "PaperBread$Texts") [(4, 22), (1, 4), (4, 25), (4, 24), (0, 10)] rfl rfl rfl sn_mTe_readLoaf
theorem nd6_51 : mP 6 (51, .inr (.inl (false, mTe_readTownPromise, 1))) := mP_of (own := "PaperBread$Texts") [(4, 42), (1, 4), (4, 45), (4, 44), (0, 11)] rfl rfl rfl sn_mTe_readTownPromise
theorem nd6_54 : mP 6 (54, .inr (.inl (false, mTo_misplaced, 0))) := mP_of (own := "PaperBread$Texts") [(4, 58), (1, 5), (3, 213), (3, 211), (3, 212)] rfl rfl rfl sn_mTo_misplaced
theorem nd6_57 : mP 6 (57, .inl (7, 9)) := mP_of (own := "PaperBread$Texts") [(1, 121)] rfl rfl rfl ⟨_, _, _, rfl, by decide⟩
theorem nd6_61 : mP 6 (61, .inr (.inl (false, mTo_blame, 1))) := mP_of (own := "PaperBread$Texts") [(3, 198), (1, 5), (3, 201), (3, 199), (3, 200)] rfl rfl rfl sn_mTo_blame
theorem nd6_64 : mP 6 (64, .inr (.inl (false, mTo_takeWord, 1))) := mP_of (own := "PaperBread$Texts") [(3, 202), (1, 5), (3, 205), (3, 203), (3, 204)] rfl rfl rfl sn_mTo_takeWord
theorem nd6_67 : mP 6 (67, .inr (.inl (false, mTo_takeSign, 1))) := mP_of (own := "PaperBread$Texts") [(4, 0), (1, 5), (4, 3), (4, 1), (4, 2)] rfl rfl rfl sn_mTo_takeSign
theorem nd6_70 : mP 6 (70, .inl (8, 13)) := mP_of (own := "PaperBread$Texts") [(2, 61)] rfl rfl rfl ⟨_, _, _, rfl, by decide⟩
theorem nd6_73 : mP 6 (73, .inr (.inl (false, mTe_beginPart, 2))) := mP_of (own := "PaperBread$Texts") [(3, 194), (1, 4), (3, 197), (3, 196), (0, 6)] rfl rfl rfl sn_mTe_beginPart
theorem nd6_77 : mP 6 (77, .inl (8, 0)) := mP_of (own := "PaperBread$Texts") [(2, 26)] rfl rfl rfl ⟨_, _, _, rfl, by decide⟩
theorem nd6_81 : mP 6 (81, .inr (.inl (false, mTo_takeNewName, 1))) := mP_of (own := "PaperBread$Texts") [(3, 215), (1, 5), (3, 218), (3, 216), (3, 217)] rfl rfl rfl sn_mTo_takeNewName
theorem nd6_85 : mP 6 (85, .inr (.inl (false, mTo_skips, 1))) := mP_of (own := "PaperBread$Texts") [(3, 228), (1, 5), (3, 231), (3, 229), (3, 230)] rfl rfl rfl sn_mTo_skips
theorem nd6_89 : mP 6 (89, .inr (.inl (false, mTo_takeNumber, 2))) := mP_of (own := "PaperBread$Texts") [(3, 232), (1, 5), (3, 235), (3, 233), (3, 234)] rfl rfl rfl sn_mTo_takeNumber
theorem nd6_93 : mP 6 (93, .inr (.inl (false, mTe_endsPart, 0))) := mP_of (own := "PaperBread$Texts") [(3, 236), (1, 4), (3, 239), (3, 238), (0, 8)] rfl rfl rfl sn_mTe_endsPart
theorem nd6_96 : mP 6 (96, .inr (.inl (false, mTw_addPerson, 2))) := mP_of (own := "PaperBread$Texts") [(4, 4), (1, 10), (4, 7), (4, 5), (4, 6)] rfl rfl rfl sn_mTw_addPerson
theorem nd6_100 : mP 6 (100, .inl (8, 14)) := mP_of (own := "PaperBread$Texts") [(2, 64)] rfl rfl rfl ⟨_, _, _, rfl, by decide⟩
theorem nd6_103 : mP 6 (103, .inr (.inl (false, mTw_addOven, 2))) := mP_of (own := "PaperBread$Texts") [(4, 18), (1, 10), (4, 21), (4, 19), (4, 20)] rfl rfl rfl sn_mTw_addOven
theorem nd6_106 : mP 6 (106, .inl (8, 15)) := mP_of (own := "PaperBread$Texts") [(2, 68)] rfl rfl rfl ⟨_, _, _, rfl, by decide⟩
theorem nd6_111 : mP 6 (111, .inr (.inl (false, mTo_takeName, 3))) := mP_of (own := "PaperBread$Texts") [(4, 26), (1, 5), (4, 29), (4, 27), (4, 28)] rfl rfl rfl sn_mTo_takeName
theorem nd6_115 : mP 6 (115, .inr (.inl (false, mTw_addLoaf, 6))) := mP_of (own := "PaperBread$Texts") [(4, 34), (1, 10), (4, 37), (4, 35), (4, 36)] rfl rfl rfl sn_mTw_addLoaf
theorem nd6_119 : mP 6 (119, .inl (8, 1)) := mP_of (own := "PaperBread$Texts") [(2, 31)] rfl rfl rfl ⟨_, _, _, rfl, by decide⟩
theorem nd6_123 : mP 6 (123, .inl (4, 8)) := mP_of (own := "PaperBread$Texts") [(1, 212)] rfl rfl rfl ⟨_, _, _, rfl, by decide⟩
theorem nd6_128 : mP 6 (128, .inr (.inl (false, mTe_readPromise, 1))) := mP_of (own := "PaperBread$Texts") [(4, 46), (1, 4), (4, 49), (4, 48), (0, 12)] rfl rfl rfl sn_mTe_readPromise
theorem nd6_132 : mP 6 (132, .inr (.inl (false, mTw_handOn, 5))) := mP_of (own := "PaperBread$Texts") [(4, 50), (1, 10), (4, 53), (4, 51), (4, 52)] rfl rfl rfl sn_mTw_handOn
theorem nd6_136 : mP 6 (136, .inr (.inl (false, mDa_clear, 0))) := mP_of (own := "PaperBread$Texts") [(4, 98), (1, 13), (3, 159), (3, 157), (3, 158)] rfl rfl rfl sn_mDa_clear
theorem nd6_137 : mP 6 (137, .inr (.inl (true, mAr_fill, 2))) := mP_of (own := "PaperBread$Texts") [(4, 99), (1, 3), (1, 36), (1, 35)] rfl rfl rfl sn_mAr_fill
theorem nd6_143 : mP 6 (143, .inr (.inl (false, mTe_readEnd, 1))) := mP_of (own := "PaperBread$Texts") [(4, 100), (1, 4), (4, 103), (4, 102), (0, 15)] rfl rfl rfl sn_mTe_readEnd
theorem nd6_147 : mP 6 (147, .inr (.inl (false, mTe_mayStepHere, 2))) := mP_of (own := "PaperBread$Texts") [(4, 112), (1, 4), (4, 115), (4, 114), (0, 16)] rfl rfl rfl sn_mTe_mayStepHere
theorem nd6_151 : mP 6 (151, .inr (.inl (false, mTe_readStep, 2))) := mP_of (own := "PaperBread$Texts") [(4, 122), (1, 4), (4, 125), (4, 124), (0, 17)] rfl rfl rfl sn_mTe_readStep
theorem nd6_155 : mP 6 (155, .inr (.inl (false, mTe_addStep, 2))) := mP_of (own := "PaperBread$Texts") [(4, 134), (1, 4), (4, 137), (4, 136), (0, 19)] rfl rfl rfl sn_mTe_addStep
theorem nd6_159 : mP 6 (159, .inl (0, 2)) := mP_of (own := "PaperBread$Texts") [(2, 3)] rfl rfl rfl ⟨_, _, _, rfl, by decide⟩
theorem nd6_162 : mP 6 (162, .inl (0, 5)) := mP_of (own := "PaperBread$Texts") [(2, 10)] rfl rfl rfl ⟨_, _, _, rfl, by decide⟩
theorem nd6_166 : mP 6 (166, .inr (.inl (false, mDa_close, 1))) := mP_of (own := "PaperBread$Texts") [(4, 104), (1, 13), (4, 107), (4, 105), (4, 106)] rfl rfl rfl sn_mDa_close
theorem nd6_170 : mP 6 (170, .inr (.inl (true, mTe_isStep, 1))) := mP_of (own := "PaperBread$Texts") [(4, 116), (1, 4), (4, 118), (4, 117)] rfl rfl rfl sn_mTe_isStep
theorem nd6_173 : mP 6 (173, .inl (0, 4)) := mP_of (own := "PaperBread$Texts") [(2, 8)] rfl rfl rfl ⟨_, _, _, rfl, by decide⟩
theorem nd6_176 : mP 6 (176, .inr (.inl (true, mTe_begins, 1))) := mP_of (own := "PaperBread$Texts") [(4, 119), (1, 4), (4, 121), (4, 120)] rfl rfl rfl sn_mTe_begins
theorem nd6_179 : mP 6 (179, .inr (.inl (false, mDa_add, 2))) := mP_of (own := "PaperBread$Texts") [(4, 138), (1, 13), (4, 111), (4, 109), (4, 110)] rfl rfl rfl sn_mDa_add
theorem nd6_183 : mP 6 (183, .inr (.inl (false, mDa_begin, 0))) := mP_of (own := "PaperBread$Texts") [(4, 139), (1, 13), (4, 142), (4, 140), (4, 141)] rfl rfl rfl sn_mDa_begin
theorem nd6_186 : mP 6 (186, .inr (.inl (false, mTe_readTest, 1))) := mP_of (own := "PaperBread$Texts") [(4, 126), (1, 4), (4, 129), (4, 128), (0, 18)] rfl rfl rfl sn_mTe_readTest
theorem nd6_189 : mP 6 (189, .inr (.inl (false, mTo_takeCompares, 0))) := mP_of (own := "PaperBread$Texts") [(4, 130), (1, 5), (4, 133), (4, 131), (4, 132)] rfl rfl rfl sn_mTo_takeCompares
theorem nd6 : ∀ q ∈ mRL6, mP 6 q := List.forall_mem_cons.mpr ⟨nd6_12, List.forall_mem_cons.mpr ⟨nd6_20, List.forall_mem_cons.mpr ⟨nd6_24, List.forall_mem_cons.mpr ⟨nd6_29, List.forall_mem_cons.mpr ⟨nd6_33, List.forall_mem_cons.mpr ⟨nd6_37, List.forall_mem_cons.mpr ⟨nd6_41, List.forall_mem_cons.mpr ⟨nd6_45, List.forall_mem_cons.mpr ⟨nd6_48, List.forall_mem_cons.mpr ⟨nd6_51, List.forall_mem_cons.mpr ⟨nd6_54, List.forall_mem_cons.mpr ⟨nd6_57, List.forall_mem_cons.mpr ⟨nd6_61, List.forall_mem_cons.mpr ⟨nd6_64, List.forall_mem_cons.mpr ⟨nd6_67, List.forall_mem_cons.mpr ⟨nd6_70, List.forall_mem_cons.mpr ⟨nd6_73, List.forall_mem_cons.mpr ⟨nd6_77, List.forall_mem_cons.mpr ⟨nd6_81, List.forall_mem_cons.mpr ⟨nd6_85, List.forall_mem_cons.mpr ⟨nd6_89, List.forall_mem_cons.mpr ⟨nd6_93, List.forall_mem_cons.mpr ⟨nd6_96, List.forall_mem_cons.mpr ⟨nd6_100, List.forall_mem_cons.mpr ⟨nd6_103, List.forall_mem_cons.mpr ⟨nd6_106, List.forall_mem_cons.mpr ⟨nd6_111, List.forall_mem_cons.mpr ⟨nd6_115, List.forall_mem_cons.mpr ⟨nd6_119, List.forall_mem_cons.mpr ⟨nd6_123, List.forall_mem_cons.mpr ⟨nd6_128, List.forall_mem_cons.mpr ⟨nd6_132, List.forall_mem_cons.mpr ⟨nd6_136, List.forall_mem_cons.mpr ⟨nd6_137, List.forall_mem_cons.mpr ⟨nd6_143, List.forall_mem_cons.mpr ⟨nd6_147, List.forall_mem_cons.mpr ⟨nd6_151, List.forall_mem_cons.mpr ⟨nd6_155, List.forall_mem_cons.mpr ⟨nd6_159, List.forall_mem_cons.mpr ⟨nd6_162, List.forall_mem_cons.mpr ⟨nd6_166, List.forall_mem_cons.mpr ⟨nd6_170, List.forall_mem_cons.mpr ⟨nd6_173, List.forall_mem_cons.mpr ⟨nd6_176, List.forall_mem_cons.mpr ⟨nd6_179, List.forall_mem_cons.mpr ⟨nd6_183, List.forall_mem_cons.mpr ⟨nd6_186, List.forall_mem_cons.mpr ⟨nd6_189, fun _ h => absurd h List.not_mem_nil⟩⟩⟩⟩⟩⟩⟩⟩⟩⟩⟩⟩⟩⟩⟩⟩⟩⟩⟩⟩⟩⟩⟩⟩⟩⟩⟩⟩⟩⟩⟩⟩⟩⟩⟩⟩⟩⟩⟩⟩⟩⟩⟩⟩⟩⟩⟩⟩
theorem nd7_9 : mP 7 (9, .inl (7, 0)) := mP_of (own := "PaperBread$Tokens") [(1, 111)] rfl rfl rfl ⟨_, _, _, rfl, by decide⟩
theorem nd7_15 : mP 7 (15, .inl (7, 1)) := mP_of (own := "PaperBread$Tokens") [(1, 112)] rfl rfl rfl ⟨_, _, _, rfl, by decide⟩
theorem nd7_31 : mP 7 (31, .inr (.inr (.inr (.inl (32))))) := mP_of (own := "PaperBread$Tokens") [(1, 110)] rfl rfl rfl trivial
theorem nd7_33 : mP 7 (33, .inl (7, 2)) := mP_of (own := "PaperBread$Tokens") [(1, 113)] rfl rfl rfl ⟨_, _, _, rfl, by decide⟩
theorem nd7_37 : mP 7 (37, .inr (.inl (false, mTo_hasRoomFor, 1))) := mP_of (own := "PaperBread$Tokens") [(3, 136), (1, 5), (3, 131), (3, 129), (3, 130)] rfl rfl rfl sn_mTo_hasRoomFor
theorem nd7_41 : mP 7 (41, .inr (.inr (.inr (.inr 3)))) := mP_of (own := "PaperBread$Tokens") [(3, 164), (3, 165), (1, 19), (3, 166)] rfl rfl rfl trivial
theorem nd7_47 : mP 7 (47, .inr (.inr (.inr (.inr 2)))) := mP_of (own := "PaperBread$Tokens") [(3, 167), (3, 168), (1, 19), (3, 169)] rfl rfl rfl trivial
theorem nd7_50 : mP 7 (50, .inl (7, 3)) := mP_of (own := "PaperBread$Tokens") [(1, 115)] rfl rfl rfl ⟨_, _, _, rfl, by decide⟩
theorem nd7_52 : mP 7 (52, .inl (7, 6)) := mP_of (own := "PaperBread$Tokens") [(1, 118)] rfl rfl rfl ⟨_, _, _, rfl, by decide⟩
theorem nd7_55 : mP 7 (55, .inl (7, 9)) := mP_of (own := "PaperBread$Tokens") [(1, 122)] rfl rfl rfl ⟨_, _, _, rfl, by decide⟩
theorem nd7_58 : mP 7 (58, .inl (7, 10)) := mP_of (own := "PaperBread$Tokens") [(1, 124)] rfl rfl rfl ⟨_, _, _, rfl, by decide⟩
theorem nd7_61 : mP 7 (61, .inr (.inl (false, mTo_advance, 0))) := mP_of (own := "PaperBread$Tokens") [(3, 170), (1, 5), (3, 173), (3, 171), (3, 172)] rfl rfl rfl sn_mTo_advance
theorem nd7_64 : mP 7 (64, .inl (7, 5)) := mP_of (own := "PaperBread$Tokens") [(1, 117)] rfl rfl rfl ⟨_, _, _, rfl, by decide⟩
theorem nd7_67 : mP 7 (67, .inl (7, 8)) := mP_of (own := "PaperBread$Tokens") [(1, 120)] rfl rfl rfl ⟨_, _, _, rfl, by decide⟩
theorem nd7_71 : mP 7 (71, .inl (7, 4)) := mP_of (own := "PaperBread$Tokens") [(1, 116)] rfl rfl rfl ⟨_, _, _, rfl, by decide⟩
theorem nd7_74 : mP 7 (74, .inr (.inl (false, mTo_cutWord, 0))) := mP_of (own := "PaperBread$Tokens") [(3, 174), (1, 5), (3, 177), (3, 176), (0, 3)] rfl rfl rfl sn_mTo_cutWord
theorem nd7_77 : mP 7 (77, .inr (.inl (false, mTo_cutNumber, 0))) := mP_of (own := "PaperBread$Tokens") [(3, 178), (1, 5), (3, 181), (3, 180), (0, 4)] rfl rfl rfl sn_mTo_cutNumber
theorem nd7_80 : mP 7 (80, .inl (7, 7)) := mP_of (own := "PaperBread$Tokens") [(1, 119)] rfl rfl rfl ⟨_, _, _, rfl, by decide⟩
theorem nd7_83 : mP 7 (83, .inr (.inl (false, mTo_blame, 1))) := mP_of (own := "PaperBread$Tokens") [(3, 214), (1, 5), (3, 201), (3, 199), (3, 200)] rfl rfl rfl sn_mTo_blame
theorem nd7_87 : mP 7 (87, .inr (.inl (false, mTo_isWord, 1))) := mP_of (own := "PaperBread$Tokens") [(3, 206), (1, 5), (3, 209), (3, 207), (3, 208)] rfl rfl rfl sn_mTo_isWord
theorem nd7_90 : mP 7 (90, .inr (.inl (false, mTo_misplaced, 0))) := mP_of (own := "PaperBread$Tokens") [(3, 210), (1, 5), (3, 213), (3, 211), (3, 212)] rfl rfl rfl sn_mTo_misplaced
theorem nd7_93 : mP 7 (93, .inr (.inl (false, mTo_wordHere, 0))) := mP_of (own := "PaperBread$Tokens") [(3, 223), (1, 5), (3, 189), (3, 187), (3, 188)] rfl rfl rfl sn_mTo_wordHere
theorem nd7_96 : mP 7 (96, .inr (.inl (false, mTo_seesName, 0))) := mP_of (own := "PaperBread$Tokens") [(3, 219), (1, 5), (3, 222), (3, 221), (0, 7)] rfl rfl rfl sn_mTo_seesName
theorem nd7_100 : mP 7 (100, .inr (.inl (false, mNa_isTaken, 1))) := mP_of (own := "PaperBread$Tokens") [(3, 224), (1, 11), (3, 227), (3, 225), (3, 226)] rfl rfl rfl sn_mNa_isTaken
theorem nd7_106 : mP 7 (106, .inr (.inl (false, mNa_numberOf, 2))) := mP_of (own := "PaperBread$Tokens") [(4, 30), (1, 11), (4, 33), (4, 31), (4, 32)] rfl rfl rfl sn_mNa_numberOf
theorem nd7 : ∀ q ∈ mRL7, mP 7 q := List.forall_mem_cons.mpr ⟨nd7_9, List.forall_mem_cons.mpr ⟨nd7_15, List.forall_mem_cons.mpr ⟨nd7_31, List.forall_mem_cons.mpr ⟨nd7_33, List.forall_mem_cons.mpr ⟨nd7_37, List.forall_mem_cons.mpr ⟨nd7_41, List.forall_mem_cons.mpr ⟨nd7_47, List.forall_mem_cons.mpr ⟨nd7_50, List.forall_mem_cons.mpr ⟨nd7_52, List.forall_mem_cons.mpr ⟨nd7_55, List.forall_mem_cons.mpr ⟨nd7_58, List.forall_mem_cons.mpr ⟨nd7_61, List.forall_mem_cons.mpr ⟨nd7_64, List.forall_mem_cons.mpr ⟨nd7_67, List.forall_mem_cons.mpr ⟨nd7_71, List.forall_mem_cons.mpr ⟨nd7_74, List.forall_mem_cons.mpr ⟨nd7_77, List.forall_mem_cons.mpr ⟨nd7_80, List.forall_mem_cons.mpr ⟨nd7_83, List.forall_mem_cons.mpr ⟨nd7_87, List.forall_mem_cons.mpr ⟨nd7_90, List.forall_mem_cons.mpr ⟨nd7_93, List.forall_mem_cons.mpr ⟨nd7_96, List.forall_mem_cons.mpr ⟨nd7_100, List.forall_mem_cons.mpr ⟨nd7_106, fun _ h => absurd h List.not_mem_nil⟩⟩⟩⟩⟩⟩⟩⟩⟩⟩⟩⟩⟩⟩⟩⟩⟩⟩⟩⟩⟩⟩⟩⟩⟩
theorem nd8_12 : mP 8 (12, .inl (8, 0)) := mP_of (own := "PaperBread$Town") [(2, 25)] rfl rfl rfl ⟨_, _, _, rfl, by decide⟩
theorem nd8_21 : mP 8 (21, .inl (8, 1)) := mP_of (own := "PaperBread$Town") [(2, 28)] rfl rfl rfl ⟨_, _, _, rfl, by decide⟩
theorem nd8_28 : mP 8 (28, .inl (8, 2)) := mP_of (own := "PaperBread$Town") [(2, 33)] rfl rfl rfl ⟨_, _, _, rfl, by decide⟩
theorem nd8_32 : mP 8 (32, .inl (8, 3)) := mP_of (own := "PaperBread$Town") [(2, 36)] rfl rfl rfl ⟨_, _, _, rfl, by decide⟩
theorem nd8_36 : mP 8 (36, .inl (8, 4)) := mP_of (own := "PaperBread$Town") [(2, 38)] rfl rfl rfl ⟨_, _, _, rfl, by decide⟩
theorem nd8_39 : mP 8 (39, .inl (8, 5)) := mP_of (own := "PaperBread$Town") [(2, 41)] rfl rfl rfl ⟨_, _, _, rfl, by decide⟩
theorem nd8_42 : mP 8 (42, .inl (8, 6)) := mP_of (own := "PaperBread$Town") [(2, 43)] rfl rfl rfl ⟨_, _, _, rfl, by decide⟩
theorem nd8_45 : mP 8 (45, .inl (8, 7)) := mP_of (own := "PaperBread$Town") [(2, 45)] rfl rfl rfl ⟨_, _, _, rfl, by decide⟩
theorem nd8_48 : mP 8 (48, .inl (8, 8)) := mP_of (own := "PaperBread$Town") [(2, 48)] rfl rfl rfl ⟨_, _, _, rfl, by decide⟩
theorem nd8_51 : mP 8 (51, .inl (8, 9)) := mP_of (own := "PaperBread$Town") [(2, 50)] rfl rfl rfl ⟨_, _, _, rfl, by decide⟩
theorem nd8_54 : mP 8 (54, .inl (8, 10)) := mP_of (own := "PaperBread$Town") [(2, 52)] rfl rfl rfl ⟨_, _, _, rfl, by decide⟩
theorem nd8_57 : mP 8 (57, .inl (8, 11)) := mP_of (own := "PaperBread$Town") [(2, 55)] rfl rfl rfl ⟨_, _, _, rfl, by decide⟩
theorem nd8_60 : mP 8 (60, .inl (8, 12)) := mP_of (own := "PaperBread$Town") [(2, 57)] rfl rfl rfl ⟨_, _, _, rfl, by decide⟩
theorem nd8_63 : mP 8 (63, .inr (.inl (false, mNa_clear, 0))) := mP_of (own := "PaperBread$Town") [(3, 149), (1, 11), (3, 152), (3, 150), (3, 151)] rfl rfl rfl sn_mNa_clear
theorem nd8_66 : mP 8 (66, .inl (4, 8)) := mP_of (own := "PaperBread$Town") [(1, 209)] rfl rfl rfl ⟨_, _, _, rfl, by decide⟩
theorem nd8_70 : mP 8 (70, .inr (.inl (false, mDa_clear, 0))) := mP_of (own := "PaperBread$Town") [(3, 156), (1, 13), (3, 159), (3, 157), (3, 158)] rfl rfl rfl sn_mDa_clear
theorem nd8_71 : mP 8 (71, .inl (8, 13)) := mP_of (own := "PaperBread$Town") [(2, 60)] rfl rfl rfl ⟨_, _, _, rfl, by decide⟩
theorem nd8_74 : mP 8 (74, .inl (8, 14)) := mP_of (own := "PaperBread$Town") [(2, 63)] rfl rfl rfl ⟨_, _, _, rfl, by decide⟩
theorem nd8_77 : mP 8 (77, .inl (8, 15)) := mP_of (own := "PaperBread$Town") [(2, 67)] rfl rfl rfl ⟨_, _, _, rfl, by decide⟩
theorem nd8_80 : mP 8 (80, .inl (8, 16)) := mP_of (own := "PaperBread$Town") [(2, 71)] rfl rfl rfl ⟨_, _, _, rfl, by decide⟩
theorem nd8_83 : mP 8 (83, .inl (8, 17)) := mP_of (own := "PaperBread$Town") [(2, 74)] rfl rfl rfl ⟨_, _, _, rfl, by decide⟩
theorem nd8_86 : mP 8 (86, .inl (8, 18)) := mP_of (own := "PaperBread$Town") [(2, 76)] rfl rfl rfl ⟨_, _, _, rfl, by decide⟩
theorem nd8_89 : mP 8 (89, .inr (.inl (false, mNa_copyOf, 1))) := mP_of (own := "PaperBread$Town") [(4, 70), (1, 11), (4, 73), (4, 71), (4, 72)] rfl rfl rfl sn_mNa_copyOf
theorem nd8_93 : mP 8 (93, .inr (.inl (false, mPr_copyOf, 1))) := mP_of (own := "PaperBread$Town") [(4, 75), (1, 12), (4, 78), (4, 76), (4, 77)] rfl rfl rfl sn_mPr_copyOf
theorem nd8_96 : mP 8 (96, .inr (.inl (false, mDa_copyOf, 1))) := mP_of (own := "PaperBread$Town") [(4, 80), (1, 13), (4, 83), (4, 81), (4, 82)] rfl rfl rfl sn_mDa_copyOf
theorem nd8_99 : mP 8 (99, .inr (.inr (.inr (.inr 0)))) := mP_of (own := "PaperBread$Town") [(4, 85), (3, 123), (3, 122), (1, 18)] rfl rfl rfl trivial
theorem nd8_105 : mP 8 (105, .inr (.inl (false, mNa_give, 3))) := mP_of (own := "PaperBread$Town") [(4, 8), (1, 11), (4, 11), (4, 9), (4, 10)] rfl rfl rfl sn_mNa_give
theorem nd8_109 : mP 8 (109, .inr (.inl (false, mTw_hasPerson, 1))) := mP_of (own := "PaperBread$Town") [(4, 38), (1, 10), (4, 41), (4, 39), (4, 40)] rfl rfl rfl sn_mTw_hasPerson
theorem nd8_113 : mP 8 (113, .inr (.inl (false, mTw_hasLoaf, 1))) := mP_of (own := "PaperBread$Town") [(4, 169), (1, 10), (4, 164), (4, 162), (4, 163)] rfl rfl rfl sn_mTw_hasLoaf
theorem nd8_116 : mP 8 (116, .inr (.inl (false, mPr_hasRoom, 0))) := mP_of (own := "PaperBread$Town") [(4, 54), (1, 12), (4, 57), (4, 55), (4, 56)] rfl rfl rfl sn_mPr_hasRoom
theorem nd8_120 : mP 8 (120, .inl (4, 0)) := mP_of (own := "PaperBread$Town") [(1, 182)] rfl rfl rfl ⟨_, _, _, rfl, by decide⟩
theorem nd8_121 : mP 8 (121, .inl (4, 1)) := mP_of (own := "PaperBread$Town") [(1, 186)] rfl rfl rfl ⟨_, _, _, rfl, by decide⟩
theorem nd8_124 : mP 8 (124, .inl (4, 2)) := mP_of (own := "PaperBread$Town") [(1, 191)] rfl rfl rfl ⟨_, _, _, rfl, by decide⟩
theorem nd8_127 : mP 8 (127, .inl (4, 3)) := mP_of (own := "PaperBread$Town") [(1, 196)] rfl rfl rfl ⟨_, _, _, rfl, by decide⟩
theorem nd8_130 : mP 8 (130, .inl (4, 4)) := mP_of (own := "PaperBread$Town") [(1, 199)] rfl rfl rfl ⟨_, _, _, rfl, by decide⟩
theorem nd8_133 : mP 8 (133, .inl (4, 5)) := mP_of (own := "PaperBread$Town") [(1, 203)] rfl rfl rfl ⟨_, _, _, rfl, by decide⟩
theorem nd8_137 : mP 8 (137, .inr (.inl (false, mPr_stands, 1))) := mP_of (own := "PaperBread$Town") [(5, 176), (1, 12), (5, 10), (5, 8), (5, 9)] rfl rfl rfl sn_mPr_stands
theorem nd8_140 : mP 8 (140, .inr (.inl (false, mTw_isBaked, 1))) := mP_of (own := "PaperBread$Town") [(5, 177), (1, 10), (4, 173), (4, 171), (4, 172)] rfl rfl rfl sn_mTw_isBaked
theorem nd8_143 : mP 8 (143, .inr (.inl (false, mTw_isPaper, 1))) := mP_of (own := "PaperBread$Town") [(5, 186), (1, 10), (4, 168), (4, 166), (4, 167)] rfl rfl rfl sn_mTw_isPaper
theorem nd8_146 : mP 8 (146, .inr (.inl (false, mTw_isWet, 1))) := mP_of (own := "PaperBread$Town") [(5, 191), (1, 10), (5, 194), (5, 192), (5, 193)] rfl rfl rfl sn_mTw_isWet
theorem nd8_149 : mP 8 (149, .inl (5, 3)) := mP_of (own := "PaperBread$Town") [(2, 132)] rfl rfl rfl ⟨_, _, _, rfl, by decide⟩
theorem nd8_154 : mP 8 (154, .inl (5, 4)) := mP_of (own := "PaperBread$Town") [(2, 135)] rfl rfl rfl ⟨_, _, _, rfl, by decide⟩
theorem nd8_157 : mP 8 (157, .inr (.inl (false, mTw_rainsOn, 1))) := mP_of (own := "PaperBread$Town") [(5, 199), (1, 10), (5, 190), (5, 188), (5, 189)] rfl rfl rfl sn_mTw_rainsOn
theorem nd8_160 : mP 8 (160, .inr (.inl (false, mTw_comesOf, 2))) := mP_of (own := "PaperBread$Town") [(5, 200), (1, 10), (4, 222), (4, 220), (4, 221)] rfl rfl rfl sn_mTw_comesOf
theorem nd8_164 : mP 8 (164, .inr (.inr (.inr (.inr 3)))) := mP_of (own := "PaperBread$Town") [(5, 213), (3, 165), (1, 19), (3, 166)] rfl rfl rfl trivial
theorem nd8 : ∀ q ∈ mRL8, mP 8 q := List.forall_mem_cons.mpr ⟨nd8_12, List.forall_mem_cons.mpr ⟨nd8_21, List.forall_mem_cons.mpr ⟨nd8_28, List.forall_mem_cons.mpr ⟨nd8_32, List.forall_mem_cons.mpr ⟨nd8_36, List.forall_mem_cons.mpr ⟨nd8_39, List.forall_mem_cons.mpr ⟨nd8_42, List.forall_mem_cons.mpr ⟨nd8_45, List.forall_mem_cons.mpr ⟨nd8_48, List.forall_mem_cons.mpr ⟨nd8_51, List.forall_mem_cons.mpr ⟨nd8_54, List.forall_mem_cons.mpr ⟨nd8_57, List.forall_mem_cons.mpr ⟨nd8_60, List.forall_mem_cons.mpr ⟨nd8_63, List.forall_mem_cons.mpr ⟨nd8_66, List.forall_mem_cons.mpr ⟨nd8_70, List.forall_mem_cons.mpr ⟨nd8_71, List.forall_mem_cons.mpr ⟨nd8_74, List.forall_mem_cons.mpr ⟨nd8_77, List.forall_mem_cons.mpr ⟨nd8_80, List.forall_mem_cons.mpr ⟨nd8_83, List.forall_mem_cons.mpr ⟨nd8_86, List.forall_mem_cons.mpr ⟨nd8_89, List.forall_mem_cons.mpr ⟨nd8_93, List.forall_mem_cons.mpr ⟨nd8_96, List.forall_mem_cons.mpr ⟨nd8_99, List.forall_mem_cons.mpr ⟨nd8_105, List.forall_mem_cons.mpr ⟨nd8_109, List.forall_mem_cons.mpr ⟨nd8_113, List.forall_mem_cons.mpr ⟨nd8_116, List.forall_mem_cons.mpr ⟨nd8_120, List.forall_mem_cons.mpr ⟨nd8_121, List.forall_mem_cons.mpr ⟨nd8_124, List.forall_mem_cons.mpr ⟨nd8_127, List.forall_mem_cons.mpr ⟨nd8_130, List.forall_mem_cons.mpr ⟨nd8_133, List.forall_mem_cons.mpr ⟨nd8_137, List.forall_mem_cons.mpr ⟨nd8_140, List.forall_mem_cons.mpr ⟨nd8_143, List.forall_mem_cons.mpr ⟨nd8_146, List.forall_mem_cons.mpr ⟨nd8_149, List.forall_mem_cons.mpr ⟨nd8_154, List.forall_mem_cons.mpr ⟨nd8_157, List.forall_mem_cons.mpr ⟨nd8_160, List.forall_mem_cons.mpr ⟨nd8_164, fun _ h => absurd h List.not_mem_nil⟩⟩⟩⟩⟩⟩⟩⟩⟩⟩⟩⟩⟩⟩⟩⟩⟩⟩⟩⟩⟩⟩⟩⟩⟩⟩⟩⟩⟩⟩⟩⟩⟩⟩⟩⟩⟩⟩⟩⟩⟩⟩⟩⟩⟩
theorem nd9_11 : mP 9 (11, .inl (9, 0)) := mP_of (own := "PaperBread$Trays") [(1, 37)] rfl rfl rfl ⟨_, _, _, rfl, by decide⟩
theorem nd9_15 : mP 9 (15, .inl (9, 1)) := mP_of (own := "PaperBread$Trays") [(1, 38)] rfl rfl rfl ⟨_, _, _, rfl, by decide⟩
theorem nd9_19 : mP 9 (19, .inl (9, 2)) := mP_of (own := "PaperBread$Trays") [(1, 39)] rfl rfl rfl ⟨_, _, _, rfl, by decide⟩
theorem nd9_22 : mP 9 (22, .inr (.inl (true, mAr_fill, 2))) := mP_of (own := "PaperBread$Trays") [(1, 34), (1, 3), (1, 36), (1, 35)] rfl rfl rfl sn_mAr_fill
theorem nd9_28 : mP 9 (28, .inr (.inl (false, mTr_exists, 1))) := mP_of (own := "PaperBread$Trays") [(3, 63), (1, 2), (3, 50), (3, 48), (3, 49)] rfl rfl rfl sn_mTr_exists
theorem nd9_32 : mP 9 (32, .inr (.inl (false, mTr_isMissing, 1))) := mP_of (own := "PaperBread$Trays") [(3, 76), (1, 2), (3, 79), (3, 77), (3, 78)] rfl rfl rfl sn_mTr_isMissing
theorem nd9_35 : mP 9 (35, .inr (.inl (false, mTr_lengthOf, 1))) := mP_of (own := "PaperBread$Trays") [(3, 84), (1, 2), (3, 87), (3, 85), (3, 86)] rfl rfl rfl sn_mTr_lengthOf
theorem nd9_39 : mP 9 (39, .inr (.inl (false, mTr_hasRow, 3))) := mP_of (own := "PaperBread$Trays") [(3, 80), (1, 2), (3, 83), (3, 81), (3, 82)] rfl rfl rfl sn_mTr_hasRow
theorem nd9_43 : mP 9 (43, .inr (.inl (true, mTr_cutTo, 2))) := mP_of (own := "PaperBread$Trays") [(3, 92), (1, 2), (3, 94), (3, 93)] rfl rfl rfl sn_mTr_cutTo
theorem nd9_47 : mP 9 (47, .inr (.inr (.inr (.inr 0)))) := mP_of (own := "PaperBread$Trays") [(3, 121), (3, 123), (3, 122), (1, 18)] rfl rfl rfl trivial
theorem nd9_53 : mP 9 (53, .inr (.inl (false, mTr_at, 2))) := mP_of (own := "PaperBread$Trays") [(5, 136), (1, 2), (3, 106), (3, 104), (3, 105)] rfl rfl rfl sn_mTr_at
theorem nd9 : ∀ q ∈ mRL9, mP 9 q := List.forall_mem_cons.mpr ⟨nd9_11, List.forall_mem_cons.mpr ⟨nd9_15, List.forall_mem_cons.mpr ⟨nd9_19, List.forall_mem_cons.mpr ⟨nd9_22, List.forall_mem_cons.mpr ⟨nd9_28, List.forall_mem_cons.mpr ⟨nd9_32, List.forall_mem_cons.mpr ⟨nd9_35, List.forall_mem_cons.mpr ⟨nd9_39, List.forall_mem_cons.mpr ⟨nd9_43, List.forall_mem_cons.mpr ⟨nd9_47, List.forall_mem_cons.mpr ⟨nd9_53, fun _ h => absurd h List.not_mem_nil⟩⟩⟩⟩⟩⟩⟩⟩⟩⟩⟩
theorem nd10_10 : mP 10 (10, .inl (10, 0)) := mP_of (own := "PaperBread") [(2, 222)] rfl rfl rfl ⟨_, _, _, rfl, by decide⟩
theorem nd10_19 : mP 10 (19, .inl (10, 1)) := mP_of (own := "PaperBread") [(2, 223)] rfl rfl rfl ⟨_, _, _, rfl, by decide⟩
theorem nd10_26 : mP 10 (26, .inl (10, 2)) := mP_of (own := "PaperBread") [(2, 224)] rfl rfl rfl ⟨_, _, _, rfl, by decide⟩
theorem nd10_30 : mP 10 (30, .inl (10, 3)) := mP_of (own := "PaperBread") [(2, 225)] rfl rfl rfl ⟨_, _, _, rfl, by decide⟩
theorem nd10_33 : mP 10 (33, .inl (10, 4)) := mP_of (own := "PaperBread") [(2, 226)] rfl rfl rfl ⟨_, _, _, rfl, by decide⟩
theorem nd10_40 : mP 10 (40, .inl (10, 5)) := mP_of (own := "PaperBread") [(2, 227)] rfl rfl rfl ⟨_, _, _, rfl, by decide⟩
theorem nd10_47 : mP 10 (47, .inl (10, 6)) := mP_of (own := "PaperBread") [(2, 228)] rfl rfl rfl ⟨_, _, _, rfl, by decide⟩
theorem nd10_54 : mP 10 (54, .inl (10, 7)) := mP_of (own := "PaperBread") [(2, 229)] rfl rfl rfl ⟨_, _, _, rfl, by decide⟩
theorem nd10_58 : mP 10 (58, .inl (10, 8)) := mP_of (own := "PaperBread") [(2, 230)] rfl rfl rfl ⟨_, _, _, rfl, by decide⟩
theorem nd10_61 : mP 10 (61, .inl (10, 12)) := mP_of (own := "PaperBread") [(2, 234)] rfl rfl rfl ⟨_, _, _, rfl, by decide⟩
theorem nd10_65 : mP 10 (65, .inl (10, 13)) := mP_of (own := "PaperBread") [(2, 235)] rfl rfl rfl ⟨_, _, _, rfl, by decide⟩
theorem nd10_69 : mP 10 (69, .inl (10, 14)) := mP_of (own := "PaperBread") [(2, 236)] rfl rfl rfl ⟨_, _, _, rfl, by decide⟩
theorem nd10_72 : mP 10 (72, .inl (10, 10)) := mP_of (own := "PaperBread") [(2, 232)] rfl rfl rfl ⟨_, _, _, rfl, by decide⟩
theorem nd10_75 : mP 10 (75, .inl (10, 11)) := mP_of (own := "PaperBread") [(2, 233)] rfl rfl rfl ⟨_, _, _, rfl, by decide⟩
theorem nd10_78 : mP 10 (78, .inr (.inl (false, mTr_exists, 1))) := mP_of (own := "PaperBread") [(3, 47), (1, 2), (3, 50), (3, 48), (3, 49)] rfl rfl rfl sn_mTr_exists
theorem nd10_82 : mP 10 (82, .inr (.inl (false, mTr_isSort, 1))) := mP_of (own := "PaperBread") [(3, 51), (1, 2), (3, 54), (3, 52), (3, 53)] rfl rfl rfl sn_mTr_isSort
theorem nd10_85 : mP 10 (85, .inr (.inl (false, mPb_deny, 1))) := mP_of (own := "PaperBread") [(3, 55), (1, 1), (3, 58), (3, 57), (0, 0)] rfl rfl rfl sn_mPb_deny
theorem nd10_88 : mP 10 (88, .inr (.inl (false, mTr_lay, 3))) := mP_of (own := "PaperBread") [(3, 59), (1, 2), (3, 62), (3, 60), (3, 61)] rfl rfl rfl sn_mTr_lay
theorem nd10_92 : mP 10 (92, .inr (.inl (false, mPb_grant, 0))) := mP_of (own := "PaperBread") [(3, 64), (1, 1), (3, 67), (3, 66), (0, 1)] rfl rfl rfl sn_mPb_grant
theorem nd10_96 : mP 10 (96, .inr (.inl (false, mTr_whyNot, 2))) := mP_of (own := "PaperBread") [(3, 72), (1, 2), (3, 75), (3, 73), (3, 74)] rfl rfl rfl sn_mTr_whyNot
theorem nd10_100 : mP 10 (100, .inr (.inl (false, mTr_put, 3))) := mP_of (own := "PaperBread") [(3, 88), (1, 2), (3, 91), (3, 89), (3, 90)] rfl rfl rfl sn_mTr_put
theorem nd10_104 : mP 10 (104, .inr (.inl (false, mPb_refuse, 1))) := mP_of (own := "PaperBread") [(3, 99), (1, 1), (3, 102), (3, 101), (0, 2)] rfl rfl rfl sn_mPb_refuse
theorem nd10_108 : mP 10 (108, .inr (.inl (false, mTr_at, 2))) := mP_of (own := "PaperBread") [(3, 103), (1, 2), (3, 106), (3, 104), (3, 105)] rfl rfl rfl sn_mTr_at
theorem nd10_112 : mP 10 (112, .inr (.inl (false, mTr_isMissing, 1))) := mP_of (own := "PaperBread") [(3, 111), (1, 2), (3, 79), (3, 77), (3, 78)] rfl rfl rfl sn_mTr_isMissing
theorem nd10_115 : mP 10 (115, .inr (.inl (false, mTr_alike, 2))) := mP_of (own := "PaperBread") [(3, 112), (1, 2), (3, 115), (3, 113), (3, 114)] rfl rfl rfl sn_mTr_alike
theorem nd10_119 : mP 10 (119, .inr (.inl (false, mTr_hasRow, 3))) := mP_of (own := "PaperBread") [(3, 116), (1, 2), (3, 83), (3, 81), (3, 82)] rfl rfl rfl sn_mTr_hasRow
theorem nd10_123 : mP 10 (123, .inr (.inl (false, mTr_move, 5))) := mP_of (own := "PaperBread") [(3, 117), (1, 2), (3, 120), (3, 118), (3, 119)] rfl rfl rfl sn_mTr_move
theorem nd10_127 : mP 10 (127, .inl (6, 0)) := mP_of (own := "PaperBread") [(1, 151)] rfl rfl rfl ⟨_, _, _, rfl, by decide⟩
theorem nd10_131 : mP 10 (131, .inr (.inl (false, mTo_hasRoomFor, 1))) := mP_of (own := "PaperBread") [(3, 128), (1, 5), (3, 131), (3, 129), (3, 130)] rfl rfl rfl sn_mTo_hasRoomFor
theorem nd10_136 : mP 10 (136, .inr (.inl (false, mTo_append, 1))) := mP_of (own := "PaperBread") [(3, 132), (1, 5), (3, 135), (3, 133), (3, 134)] rfl rfl rfl sn_mTo_append
theorem nd10_140 : mP 10 (140, .inl (7, 2)) := mP_of (own := "PaperBread") [(1, 114)] rfl rfl rfl ⟨_, _, _, rfl, by decide⟩
theorem nd10_143 : mP 10 (143, .inr (.inl (false, mTe_readTown, 2))) := mP_of (own := "PaperBread") [(3, 141), (1, 4), (3, 144), (3, 142), (3, 143)] rfl rfl rfl sn_mTe_readTown
theorem nd10_147 : mP 10 (147, .inr (.inl (false, mPb_keepFault, 0))) := mP_of (own := "PaperBread") [(4, 59), (1, 1), (4, 62), (4, 61), (0, 13)] rfl rfl rfl sn_mPb_keepFault
theorem nd10_150 : mP 10 (150, .inr (.inl (true, mPb_carry, 2))) := mP_of (own := "PaperBread") [(4, 63), (1, 1), (4, 65), (4, 64)] rfl rfl rfl sn_mPb_carry
theorem nd10_154 : mP 10 (154, .inl (8, 15)) := mP_of (own := "PaperBread") [(2, 70)] rfl rfl rfl ⟨_, _, _, rfl, by decide⟩
theorem nd10_157 : mP 10 (157, .inr (.inl (false, mPb_answer, 1))) := mP_of (own := "PaperBread") [(4, 86), (1, 1), (4, 89), (4, 88), (0, 14)] rfl rfl rfl sn_mPb_answer
theorem nd10_160 : mP 10 (160, .inl (8, 0)) := mP_of (own := "PaperBread") [(2, 27)] rfl rfl rfl ⟨_, _, _, rfl, by decide⟩
theorem nd10_164 : mP 10 (164, .inl (8, 2)) := mP_of (own := "PaperBread") [(2, 35)] rfl rfl rfl ⟨_, _, _, rfl, by decide⟩
theorem nd10_168 : mP 10 (168, .inr (.inl (false, mTe_readDays, 3))) := mP_of (own := "PaperBread") [(4, 94), (1, 4), (4, 97), (4, 95), (4, 96)] rfl rfl rfl sn_mTe_readDays
theorem nd10_172 : mP 10 (172, .inr (.inl (false, mDa_copyOf, 1))) := mP_of (own := "PaperBread") [(4, 143), (1, 13), (4, 83), (4, 81), (4, 82)] rfl rfl rfl sn_mDa_copyOf
theorem nd10_178 : mP 10 (178, .inl (0, 4)) := mP_of (own := "PaperBread") [(2, 7)] rfl rfl rfl ⟨_, _, _, rfl, by decide⟩
theorem nd10_181 : mP 10 (181, .inl (8, 13)) := mP_of (own := "PaperBread") [(2, 62)] rfl rfl rfl ⟨_, _, _, rfl, by decide⟩
theorem nd10_184 : mP 10 (184, .inl (8, 14)) := mP_of (own := "PaperBread") [(2, 66)] rfl rfl rfl ⟨_, _, _, rfl, by decide⟩
theorem nd10_187 : mP 10 (187, .inl (8, 1)) := mP_of (own := "PaperBread") [(2, 32)] rfl rfl rfl ⟨_, _, _, rfl, by decide⟩
theorem nd10_191 : mP 10 (191, .inl (4, 8)) := mP_of (own := "PaperBread") [(1, 213)] rfl rfl rfl ⟨_, _, _, rfl, by decide⟩
theorem nd10_196 : mP 10 (196, .inl (8, 16)) := mP_of (own := "PaperBread") [(2, 73)] rfl rfl rfl ⟨_, _, _, rfl, by decide⟩
theorem nd10_199 : mP 10 (199, .inl (8, 17)) := mP_of (own := "PaperBread") [(2, 75)] rfl rfl rfl ⟨_, _, _, rfl, by decide⟩
theorem nd10_202 : mP 10 (202, .inl (8, 18)) := mP_of (own := "PaperBread") [(2, 78)] rfl rfl rfl ⟨_, _, _, rfl, by decide⟩
theorem nd10_205 : mP 10 (205, .inr (.inl (false, mTw_hasPerson, 1))) := mP_of (own := "PaperBread") [(4, 156), (1, 10), (4, 41), (4, 39), (4, 40)] rfl rfl rfl sn_mTw_hasPerson
theorem nd10_208 : mP 10 (208, .inl (8, 3)) := mP_of (own := "PaperBread") [(2, 37)] rfl rfl rfl ⟨_, _, _, rfl, by decide⟩
theorem nd10_212 : mP 10 (212, .inl (8, 4)) := mP_of (own := "PaperBread") [(2, 40)] rfl rfl rfl ⟨_, _, _, rfl, by decide⟩
theorem nd10_215 : mP 10 (215, .inl (8, 5)) := mP_of (own := "PaperBread") [(2, 42)] rfl rfl rfl ⟨_, _, _, rfl, by decide⟩
theorem nd10_218 : mP 10 (218, .inr (.inl (false, mTw_hasLoaf, 1))) := mP_of (own := "PaperBread") [(4, 161), (1, 10), (4, 164), (4, 162), (4, 163)] rfl rfl rfl sn_mTw_hasLoaf
theorem nd10_221 : mP 10 (221, .inl (8, 7)) := mP_of (own := "PaperBread") [(2, 47)] rfl rfl rfl ⟨_, _, _, rfl, by decide⟩
theorem nd10_224 : mP 10 (224, .inr (.inl (false, mTw_isPaper, 1))) := mP_of (own := "PaperBread") [(4, 165), (1, 10), (4, 168), (4, 166), (4, 167)] rfl rfl rfl sn_mTw_isPaper
theorem nd10_227 : mP 10 (227, .inl (8, 8)) := mP_of (own := "PaperBread") [(2, 49)] rfl rfl rfl ⟨_, _, _, rfl, by decide⟩
theorem nd10_230 : mP 10 (230, .inl (8, 9)) := mP_of (own := "PaperBread") [(2, 51)] rfl rfl rfl ⟨_, _, _, rfl, by decide⟩
theorem nd10_233 : mP 10 (233, .inl (8, 10)) := mP_of (own := "PaperBread") [(2, 54)] rfl rfl rfl ⟨_, _, _, rfl, by decide⟩
theorem nd10_236 : mP 10 (236, .inl (8, 11)) := mP_of (own := "PaperBread") [(2, 56)] rfl rfl rfl ⟨_, _, _, rfl, by decide⟩
theorem nd10_239 : mP 10 (239, .inr (.inl (false, mTw_isBaked, 1))) := mP_of (own := "PaperBread") [(4, 170), (1, 10), (4, 173), (4, 171), (4, 172)] rfl rfl rfl sn_mTw_isBaked
theorem nd10_242 : mP 10 (242, .inl (8, 12)) := mP_of (own := "PaperBread") [(2, 58)] rfl rfl rfl ⟨_, _, _, rfl, by decide⟩
theorem nd10_245 : mP 10 (245, .inr (.inl (false, mPr_has, 1))) := mP_of (own := "PaperBread") [(4, 178), (1, 12), (4, 181), (4, 179), (4, 180)] rfl rfl rfl sn_mPr_has
theorem nd10_248 : mP 10 (248, .inl (4, 0)) := mP_of (own := "PaperBread") [(1, 183)] rfl rfl rfl ⟨_, _, _, rfl, by decide⟩
theorem nd10_249 : mP 10 (249, .inl (4, 1)) := mP_of (own := "PaperBread") [(1, 187)] rfl rfl rfl ⟨_, _, _, rfl, by decide⟩
theorem nd10_252 : mP 10 (252, .inl (4, 2)) := mP_of (own := "PaperBread") [(1, 192)] rfl rfl rfl ⟨_, _, _, rfl, by decide⟩
theorem nd10_255 : mP 10 (255, .inl (4, 3)) := mP_of (own := "PaperBread") [(1, 197)] rfl rfl rfl ⟨_, _, _, rfl, by decide⟩
theorem nd10_258 : mP 10 (258, .inl (4, 4)) := mP_of (own := "PaperBread") [(1, 200)] rfl rfl rfl ⟨_, _, _, rfl, by decide⟩
theorem nd10_261 : mP 10 (261, .inl (4, 5)) := mP_of (own := "PaperBread") [(1, 204)] rfl rfl rfl ⟨_, _, _, rfl, by decide⟩
theorem nd10_265 : mP 10 (265, .inr (.inl (false, mSh_weigh, 2))) := mP_of (own := "PaperBread") [(4, 186), (1, 14), (4, 189), (4, 187), (4, 188)] rfl rfl rfl sn_mSh_weigh
theorem nd10_269 : mP 10 (269, .inl (5, 0)) := mP_of (own := "PaperBread") [(2, 126)] rfl rfl rfl ⟨_, _, _, rfl, by decide⟩
theorem nd10_272 : mP 10 (272, .inr (.inl (false, mPr_deepest, 2))) := mP_of (own := "PaperBread") [(4, 201), (1, 12), (4, 204), (4, 202), (4, 203)] rfl rfl rfl sn_mPr_deepest
theorem nd10_275 : mP 10 (275, .inl (5, 1)) := mP_of (own := "PaperBread") [(2, 128)] rfl rfl rfl ⟨_, _, _, rfl, by decide⟩
theorem nd10_278 : mP 10 (278, .inl (5, 6)) := mP_of (own := "PaperBread") [(2, 140)] rfl rfl rfl ⟨_, _, _, rfl, by decide⟩
theorem nd10_281 : mP 10 (281, .inl (5, 2)) := mP_of (own := "PaperBread") [(2, 130)] rfl rfl rfl ⟨_, _, _, rfl, by decide⟩
theorem nd10_284 : mP 10 (284, .inr (.inl (false, mTw_comesOf, 2))) := mP_of (own := "PaperBread") [(4, 219), (1, 10), (4, 222), (4, 220), (4, 221)] rfl rfl rfl sn_mTw_comesOf
theorem nd10_288 : mP 10 (288, .inr (.inl (false, mSh_deal, 1))) := mP_of (own := "PaperBread") [(4, 223), (1, 14), (4, 226), (4, 224), (4, 225)] rfl rfl rfl sn_mSh_deal
theorem nd10_291 : mP 10 (291, .inr (.inl (false, mSh_ownerOf, 1))) := mP_of (own := "PaperBread") [(4, 227), (1, 14), (4, 230), (4, 228), (4, 229)] rfl rfl rfl sn_mSh_ownerOf
theorem nd10_294 : mP 10 (294, .inr (.inl (false, mTw_bakerOf, 1))) := mP_of (own := "PaperBread") [(4, 235), (1, 10), (4, 238), (4, 236), (4, 237)] rfl rfl rfl sn_mTw_bakerOf
theorem nd10_297 : mP 10 (297, .inl (4, 6)) := mP_of (own := "PaperBread") [(1, 206)] rfl rfl rfl ⟨_, _, _, rfl, by decide⟩
theorem nd10_300 : mP 10 (300, .inr (.inl (false, mPr_handed, 2))) := mP_of (own := "PaperBread") [(5, 3), (1, 12), (5, 6), (5, 4), (5, 5)] rfl rfl rfl sn_mPr_handed
theorem nd10_303 : mP 10 (303, .inr (.inl (false, mPb_wouldGet, 3))) := mP_of (own := "PaperBread") [(5, 16), (1, 1), (5, 19), (5, 18), (0, 21)] rfl rfl rfl sn_mPb_wouldGet
theorem nd10_307 : mP 10 (307, .inr (.inl (false, mSh_settle, 3))) := mP_of (own := "PaperBread") [(5, 24), (1, 14), (5, 27), (5, 25), (5, 26)] rfl rfl rfl sn_mSh_settle
theorem nd10_311 : mP 10 (311, .inl (5, 4)) := mP_of (own := "PaperBread") [(2, 136)] rfl rfl rfl ⟨_, _, _, rfl, by decide⟩
theorem nd10_314 : mP 10 (314, .inr (.inl (false, mTw_rainOn, 1))) := mP_of (own := "PaperBread") [(5, 38), (1, 10), (5, 41), (5, 39), (5, 40)] rfl rfl rfl sn_mTw_rainOn
theorem nd10_317 : mP 10 (317, .inr (.inr (.inr (.inl (16))))) := mP_of (own := "PaperBread") [(5, 42)] rfl rfl rfl trivial
theorem nd10_319 : mP 10 (319, .inr (.inl (false, mPb_tell, 2))) := mP_of (own := "PaperBread") [(5, 43), (1, 1), (5, 46), (5, 45), (0, 22)] rfl rfl rfl sn_mPb_tell
theorem nd10_323 : mP 10 (323, .inr (.inl (false, mPr_surplus, 1))) := mP_of (own := "PaperBread") [(5, 51), (1, 12), (5, 54), (5, 52), (5, 53)] rfl rfl rfl sn_mPr_surplus
theorem nd10_326 : mP 10 (326, .inr (.inl (false, mNe_fewestHandOvers, 1))) := mP_of (own := "PaperBread") [(5, 59), (1, 15), (5, 62), (5, 60), (5, 61)] rfl rfl rfl sn_mNe_fewestHandOvers
theorem nd10_330 : mP 10 (330, .inr (.inl (false, mNe_findRing, 1))) := mP_of (own := "PaperBread") [(5, 69), (1, 15), (5, 72), (5, 70), (5, 71)] rfl rfl rfl sn_mNe_findRing
theorem nd10_334 : mP 10 (334, .inl (3, 4)) := mP_of (own := "PaperBread") [(2, 168)] rfl rfl rfl ⟨_, _, _, rfl, by decide⟩
theorem nd10_337 : mP 10 (337, .inl (3, 3)) := mP_of (own := "PaperBread") [(2, 166)] rfl rfl rfl ⟨_, _, _, rfl, by decide⟩
theorem nd10_340 : mP 10 (340, .inr (.inl (false, mSh_gather, 2))) := mP_of (own := "PaperBread") [(5, 99), (1, 14), (5, 102), (5, 100), (5, 101)] rfl rfl rfl sn_mSh_gather
theorem nd10_343 : mP 10 (343, .inr (.inl (false, mSh_cheapestSet, 2))) := mP_of (own := "PaperBread") [(5, 103), (1, 14), (5, 106), (5, 104), (5, 105)] rfl rfl rfl sn_mSh_cheapestSet
theorem nd10_347 : mP 10 (347, .inr (.inl (false, mTw_flourOf, 1))) := mP_of (own := "PaperBread") [(5, 117), (1, 10), (5, 116), (5, 114), (5, 115)] rfl rfl rfl sn_mTw_flourOf
theorem nd10_350 : mP 10 (350, .inr (.inl (false, mSh_othersHold, 1))) := mP_of (own := "PaperBread") [(5, 122), (1, 14), (5, 125), (5, 123), (5, 124)] rfl rfl rfl sn_mSh_othersHold
theorem nd10_353 : mP 10 (353, .inr (.inl (false, mTr_lengthOf, 1))) := mP_of (own := "PaperBread") [(5, 130), (1, 2), (3, 87), (3, 85), (3, 86)] rfl rfl rfl sn_mTr_lengthOf
theorem nd10_356 : mP 10 (356, .inr (.inr (.inr (.inl (999))))) := mP_of (own := "PaperBread") [(5, 131)] rfl rfl rfl trivial
theorem nd10_358 : mP 10 (358, .inr (.inl (false, mTr_allWithin, 3))) := mP_of (own := "PaperBread") [(5, 132), (1, 2), (5, 135), (5, 133), (5, 134)] rfl rfl rfl sn_mTr_allWithin
theorem nd10_362 : mP 10 (362, .inr (.inl (false, mPb_firstBrokenDay, 3))) := mP_of (own := "PaperBread") [(5, 137), (1, 1), (5, 140), (5, 139), (0, 27)] rfl rfl rfl sn_mPb_firstBrokenDay
theorem nd10_366 : mP 10 (366, .inr (.inl (true, mPb_cuttingTurn, 4))) := mP_of (own := "PaperBread") [(5, 149), (1, 1), (5, 151), (5, 150)] rfl rfl rfl sn_mPb_cuttingTurn
theorem nd10_370 : mP 10 (370, .inr (.inr (.inr (.inl (9999))))) := mP_of (own := "PaperBread") [(5, 157)] rfl rfl rfl trivial
theorem nd10_372 : mP 10 (372, .inr (.inl (false, mTr_placeOfMost, 3))) := mP_of (own := "PaperBread") [(5, 158), (1, 2), (5, 161), (5, 159), (5, 160)] rfl rfl rfl sn_mTr_placeOfMost
theorem nd10_375 : mP 10 (375, .inr (.inl (false, mPr_hasRoom, 0))) := mP_of (own := "PaperBread") [(5, 166), (1, 12), (4, 57), (4, 55), (4, 56)] rfl rfl rfl sn_mPr_hasRoom
theorem nd10_378 : mP 10 (378, .inr (.inl (false, mTw_handOn, 5))) := mP_of (own := "PaperBread") [(5, 167), (1, 10), (4, 53), (4, 51), (4, 52)] rfl rfl rfl sn_mTw_handOn
theorem nd10_382 : mP 10 (382, .inr (.inl (false, mTw_release, 1))) := mP_of (own := "PaperBread") [(5, 172), (1, 10), (5, 175), (5, 173), (5, 174)] rfl rfl rfl sn_mTw_release
theorem nd10_385 : mP 10 (385, .inr (.inl (false, mTw_canBake, 1))) := mP_of (own := "PaperBread") [(5, 182), (1, 10), (5, 185), (5, 183), (5, 184)] rfl rfl rfl sn_mTw_canBake
theorem nd10_388 : mP 10 (388, .inr (.inl (false, mTw_rainsOn, 1))) := mP_of (own := "PaperBread") [(5, 187), (1, 10), (5, 190), (5, 188), (5, 189)] rfl rfl rfl sn_mTw_rainsOn
theorem nd10_391 : mP 10 (391, .inr (.inl (false, mTw_bringOut, 2))) := mP_of (own := "PaperBread") [(5, 195), (1, 10), (5, 198), (5, 196), (5, 197)] rfl rfl rfl sn_mTw_bringOut
theorem nd10_395 : mP 10 (395, .inr (.inl (false, mTw_feast, 2))) := mP_of (own := "PaperBread") [(5, 209), (1, 10), (5, 212), (5, 210), (5, 211)] rfl rfl rfl sn_mTw_feast
theorem nd10_398 : mP 10 (398, .inr (.inl (false, mTw_handMoney, 3))) := mP_of (own := "PaperBread") [(5, 218), (1, 10), (5, 221), (5, 219), (5, 220)] rfl rfl rfl sn_mTw_handMoney
theorem nd10_401 : mP 10 (401, .inl (0, 5)) := mP_of (own := "PaperBread") [(2, 11)] rfl rfl rfl ⟨_, _, _, rfl, by decide⟩
theorem nd10_405 : mP 10 (405, .inr (.inl (false, mLi_run, 2))) := mP_of (own := "PaperBread") [(5, 226), (1, 16), (5, 229), (5, 227), (5, 228)] rfl rfl rfl sn_mLi_run
theorem nd10_408 : mP 10 (408, .inl (10, 15)) := mP_of (own := "PaperBread") [(2, 237)] rfl rfl rfl ⟨_, _, _, rfl, by decide⟩
theorem nd10_411 : mP 10 (411, .inl (1, 3)) := mP_of (own := "PaperBread") [(2, 192)] rfl rfl rfl ⟨_, _, _, rfl, by decide⟩
theorem nd10_412 : mP 10 (412, .inl (1, 4)) := mP_of (own := "PaperBread") [(2, 194)] rfl rfl rfl ⟨_, _, _, rfl, by decide⟩
theorem nd10_415 : mP 10 (415, .inl (1, 5)) := mP_of (own := "PaperBread") [(2, 196)] rfl rfl rfl ⟨_, _, _, rfl, by decide⟩
theorem nd10_418 : mP 10 (418, .inl (1, 6)) := mP_of (own := "PaperBread") [(2, 198)] rfl rfl rfl ⟨_, _, _, rfl, by decide⟩
theorem nd10_421 : mP 10 (421, .inl (1, 7)) := mP_of (own := "PaperBread") [(2, 200)] rfl rfl rfl ⟨_, _, _, rfl, by decide⟩
theorem nd10_424 : mP 10 (424, .inl (1, 8)) := mP_of (own := "PaperBread") [(2, 202)] rfl rfl rfl ⟨_, _, _, rfl, by decide⟩
theorem nd10_427 : mP 10 (427, .inl (10, 9)) := mP_of (own := "PaperBread") [(2, 231)] rfl rfl rfl ⟨_, _, _, rfl, by decide⟩
theorem nd10_430 : mP 10 (430, .inl (7, 9)) := mP_of (own := "PaperBread") [(1, 123)] rfl rfl rfl ⟨_, _, _, rfl, by decide⟩
theorem nd10_433 : mP 10 (433, .inl (7, 10)) := mP_of (own := "PaperBread") [(1, 125)] rfl rfl rfl ⟨_, _, _, rfl, by decide⟩
theorem nd10_436 : mP 10 (436, .inl (5, 3)) := mP_of (own := "PaperBread") [(2, 133)] rfl rfl rfl ⟨_, _, _, rfl, by decide⟩
theorem nd10_439 : mP 10 (439, .inl (5, 5)) := mP_of (own := "PaperBread") [(2, 138)] rfl rfl rfl ⟨_, _, _, rfl, by decide⟩
theorem nd10_442 : mP 10 (442, .inr (.inr (.inr (.inr 3)))) := mP_of (own := "PaperBread") [(5, 152), (3, 165), (1, 19), (3, 166)] rfl rfl rfl trivial
theorem nd10_447 : mP 10 (447, .inr (.inl (false, mTw_copyOf, 1))) := mP_of (own := "PaperBread") [(4, 66), (1, 10), (4, 69), (4, 67), (4, 68)] rfl rfl rfl sn_mTw_copyOf
theorem nd10 : ∀ q ∈ mRL10, mP 10 q := List.forall_mem_cons.mpr ⟨nd10_10, List.forall_mem_cons.mpr ⟨nd10_19, List.forall_mem_cons.mpr ⟨nd10_26, List.forall_mem_cons.mpr ⟨nd10_30, List.forall_mem_cons.mpr ⟨nd10_33, List.forall_mem_cons.mpr ⟨nd10_40, List.forall_mem_cons.mpr ⟨nd10_47, List.forall_mem_cons.mpr ⟨nd10_54, List.forall_mem_cons.mpr ⟨nd10_58, List.forall_mem_cons.mpr ⟨nd10_61, List.forall_mem_cons.mpr ⟨nd10_65, List.forall_mem_cons.mpr ⟨nd10_69, List.forall_mem_cons.mpr ⟨nd10_72, List.forall_mem_cons.mpr ⟨nd10_75, List.forall_mem_cons.mpr ⟨nd10_78, List.forall_mem_cons.mpr ⟨nd10_82, List.forall_mem_cons.mpr ⟨nd10_85, List.forall_mem_cons.mpr ⟨nd10_88, List.forall_mem_cons.mpr ⟨nd10_92, List.forall_mem_cons.mpr ⟨nd10_96, List.forall_mem_cons.mpr ⟨nd10_100, List.forall_mem_cons.mpr ⟨nd10_104, List.forall_mem_cons.mpr ⟨nd10_108, List.forall_mem_cons.mpr ⟨nd10_112, List.forall_mem_cons.mpr ⟨nd10_115, List.forall_mem_cons.mpr ⟨nd10_119, List.forall_mem_cons.mpr ⟨nd10_123, List.forall_mem_cons.mpr ⟨nd10_127, List.forall_mem_cons.mpr ⟨nd10_131, List.forall_mem_cons.mpr ⟨nd10_136, List.forall_mem_cons.mpr ⟨nd10_140, List.forall_mem_cons.mpr ⟨nd10_143, List.forall_mem_cons.mpr ⟨nd10_147, List.forall_mem_cons.mpr ⟨nd10_150, List.forall_mem_cons.mpr ⟨nd10_154, List.forall_mem_cons.mpr ⟨nd10_157, List.forall_mem_cons.mpr ⟨nd10_160, List.forall_mem_cons.mpr ⟨nd10_164, List.forall_mem_cons.mpr ⟨nd10_168, List.forall_mem_cons.mpr ⟨nd10_172, List.forall_mem_cons.mpr ⟨nd10_178, List.forall_mem_cons.mpr ⟨nd10_181, List.forall_mem_cons.mpr ⟨nd10_184, List.forall_mem_cons.mpr ⟨nd10_187, List.forall_mem_cons.mpr ⟨nd10_191, List.forall_mem_cons.mpr ⟨nd10_196, List.forall_mem_cons.mpr ⟨nd10_199, List.forall_mem_cons.mpr ⟨nd10_202, List.forall_mem_cons.mpr ⟨nd10_205, List.forall_mem_cons.mpr ⟨nd10_208, List.forall_mem_cons.mpr ⟨nd10_212, List.forall_mem_cons.mpr ⟨nd10_215, List.forall_mem_cons.mpr ⟨nd10_218, List.forall_mem_cons.mpr ⟨nd10_221, List.forall_mem_cons.mpr ⟨nd10_224, List.forall_mem_cons.mpr ⟨nd10_227, List.forall_mem_cons.mpr ⟨nd10_230, List.forall_mem_cons.mpr ⟨nd10_233, List.forall_mem_cons.mpr ⟨nd10_236, List.forall_mem_cons.mpr ⟨nd10_239, List.forall_mem_cons.mpr ⟨nd10_242, List.forall_mem_cons.mpr ⟨nd10_245, List.forall_mem_cons.mpr ⟨nd10_248, List.forall_mem_cons.mpr ⟨nd10_249, List.forall_mem_cons.mpr ⟨nd10_252, List.forall_mem_cons.mpr ⟨nd10_255, List.forall_mem_cons.mpr ⟨nd10_258, List.forall_mem_cons.mpr ⟨nd10_261, List.forall_mem_cons.mpr ⟨nd10_265, List.forall_mem_cons.mpr ⟨nd10_269, List.forall_mem_cons.mpr ⟨nd10_272, List.forall_mem_cons.mpr ⟨nd10_275, List.forall_mem_cons.mpr ⟨nd10_278, List.forall_mem_cons.mpr ⟨nd10_281, List.forall_mem_cons.mpr ⟨nd10_284, List.forall_mem_cons.mpr ⟨nd10_288, List.forall_mem_cons.mpr ⟨nd10_291, List.forall_mem_cons.mpr ⟨nd10_294, List.forall_mem_cons.mpr ⟨nd10_297, List.forall_mem_cons.mpr ⟨nd10_300, List.forall_mem_cons.mpr ⟨nd10_303, List.forall_mem_cons.mpr ⟨nd10_307, List.forall_mem_cons.mpr ⟨nd10_311, List.forall_mem_cons.mpr ⟨nd10_314, List.forall_mem_cons.mpr ⟨nd10_317, List.forall_mem_cons.mpr ⟨nd10_319, List.forall_mem_cons.mpr ⟨nd10_323, List.forall_mem_cons.mpr ⟨nd10_326, List.forall_mem_cons.mpr ⟨nd10_330, List.forall_mem_cons.mpr ⟨nd10_334, List.forall_mem_cons.mpr ⟨nd10_337, List.forall_mem_cons.mpr ⟨nd10_340, List.forall_mem_cons.mpr ⟨nd10_343, List.forall_mem_cons.mpr ⟨nd10_347, List.forall_mem_cons.mpr ⟨nd10_350, List.forall_mem_cons.mpr ⟨nd10_353, List.forall_mem_cons.mpr ⟨nd10_356, List.forall_mem_cons.mpr ⟨nd10_358, List.forall_mem_cons.mpr ⟨nd10_362, List.forall_mem_cons.mpr ⟨nd10_366, List.forall_mem_cons.mpr ⟨nd10_370, List.forall_mem_cons.mpr ⟨nd10_372, List.forall_mem_cons.mpr ⟨nd10_375, List.forall_mem_cons.mpr ⟨nd10_378, List.forall_mem_cons.mpr ⟨nd10_382, List.forall_mem_cons.mpr ⟨nd10_385, List.forall_mem_cons.mpr ⟨nd10_388, List.forall_mem_cons.mpr ⟨nd10_391, List.forall_mem_cons.mpr ⟨nd10_395, List.forall_mem_cons.mpr ⟨nd10_398, List.forall_mem_cons.mpr ⟨nd10_401, List.forall_mem_cons.mpr ⟨nd10_405, List.forall_mem_cons.mpr ⟨nd10_408, List.forall_mem_cons.mpr ⟨nd10_411, List.forall_mem_cons.mpr ⟨nd10_412, List.forall_mem_cons.mpr ⟨nd10_415, List.forall_mem_cons.mpr ⟨nd10_418, List.forall_mem_cons.mpr ⟨nd10_421, List.forall_mem_cons.mpr ⟨nd10_424, List.forall_mem_cons.mpr ⟨nd10_427, List.forall_mem_cons.mpr ⟨nd10_430, List.forall_mem_cons.mpr ⟨nd10_433, List.forall_mem_cons.mpr ⟨nd10_436, List.forall_mem_cons.mpr ⟨nd10_439, List.forall_mem_cons.mpr ⟨nd10_442, List.forall_mem_cons.mpr ⟨nd10_447, fun _ h => absurd h List.not_mem_nil⟩⟩⟩⟩⟩⟩⟩⟩⟩⟩⟩⟩⟩⟩⟩⟩⟩⟩⟩⟩⟩⟩⟩⟩⟩⟩⟩⟩⟩⟩⟩⟩⟩⟩⟩⟩⟩⟩⟩⟩⟩⟩⟩⟩⟩⟩⟩⟩⟩⟩⟩⟩⟩⟩⟩⟩⟩⟩⟩⟩⟩⟩⟩⟩⟩⟩⟩⟩⟩⟩⟩⟩⟩⟩⟩⟩⟩⟩⟩⟩⟩⟩⟩⟩⟩⟩⟩⟩⟩⟩⟩⟩⟩⟩⟩⟩⟩⟩⟩⟩⟩⟩⟩⟩⟩⟩⟩⟩⟩⟩⟩⟩⟩⟩⟩⟩⟩⟩⟩⟩⟩⟩⟩⟩⟩⟩
theorem nd11_7 : mP 11 (7, .inl (11, 3)) := mP_of (own := "PaperBreadModel") [(6, 62)] rfl rfl rfl ⟨_, _, _, rfl, by decide⟩
theorem nd11_13 : mP 11 (13, .inl (11, 4)) := mP_of (own := "PaperBreadModel") [(6, 63)] rfl rfl rfl ⟨_, _, _, rfl, by decide⟩
theorem nd11_17 : mP 11 (17, .inl (11, 5)) := mP_of (own := "PaperBreadModel") [(6, 64)] rfl rfl rfl ⟨_, _, _, rfl, by decide⟩
theorem nd11_20 : mP 11 (20, .inl (11, 6)) := mP_of (own := "PaperBreadModel") [(6, 65)] rfl rfl rfl ⟨_, _, _, rfl, by decide⟩
theorem nd11_24 : mP 11 (24, .inl (11, 7)) := mP_of (own := "PaperBreadModel") [(6, 66)] rfl rfl rfl ⟨_, _, _, rfl, by decide⟩
theorem nd11_28 : mP 11 (28, .inl (11, 10)) := mP_of (own := "PaperBreadModel") [(6, 69)] rfl rfl rfl ⟨_, _, _, rfl, by decide⟩
theorem nd11_32 : mP 11 (32, .inl (11, 11)) := mP_of (own := "PaperBreadModel") [(6, 70)] rfl rfl rfl ⟨_, _, _, rfl, by decide⟩
theorem nd11_35 : mP 11 (35, .inl (11, 20)) := mP_of (own := "PaperBreadModel") [(6, 79)] rfl rfl rfl ⟨_, _, _, rfl, by decide⟩
theorem nd11_38 : mP 11 (38, .inl (11, 21)) := mP_of (own := "PaperBreadModel") [(6, 80)] rfl rfl rfl ⟨_, _, _, rfl, by decide⟩
theorem nd11_41 : mP 11 (41, .inl (11, 22)) := mP_of (own := "PaperBreadModel") [(6, 81)] rfl rfl rfl ⟨_, _, _, rfl, by decide⟩
theorem nd11_44 : mP 11 (44, .inl (11, 25)) := mP_of (own := "PaperBreadModel") [(6, 84)] rfl rfl rfl ⟨_, _, _, rfl, by decide⟩
theorem nd11_47 : mP 11 (47, .inl (11, 26)) := mP_of (own := "PaperBreadModel") [(6, 85)] rfl rfl rfl ⟨_, _, _, rfl, by decide⟩
theorem nd11_50 : mP 11 (50, .inl (11, 27)) := mP_of (own := "PaperBreadModel") [(6, 86)] rfl rfl rfl ⟨_, _, _, rfl, by decide⟩
theorem nd11_53 : mP 11 (53, .inl (11, 29)) := mP_of (own := "PaperBreadModel") [(6, 88)] rfl rfl rfl ⟨_, _, _, rfl, by decide⟩
theorem nd11_56 : mP 11 (56, .inl (11, 30)) := mP_of (own := "PaperBreadModel") [(6, 89)] rfl rfl rfl ⟨_, _, _, rfl, by decide⟩
theorem nd11_59 : mP 11 (59, .inl (11, 31)) := mP_of (own := "PaperBreadModel") [(6, 90)] rfl rfl rfl ⟨_, _, _, rfl, by decide⟩
theorem nd11_62 : mP 11 (62, .inl (11, 32)) := mP_of (own := "PaperBreadModel") [(6, 91)] rfl rfl rfl ⟨_, _, _, rfl, by decide⟩
theorem nd11_65 : mP 11 (65, .inl (11, 34)) := mP_of (own := "PaperBreadModel") [(6, 93)] rfl rfl rfl ⟨_, _, _, rfl, by decide⟩
theorem nd11_68 : mP 11 (68, .inl (11, 35)) := mP_of (own := "PaperBreadModel") [(6, 94)] rfl rfl rfl ⟨_, _, _, rfl, by decide⟩
theorem nd11_71 : mP 11 (71, .inl (11, 36)) := mP_of (own := "PaperBreadModel") [(6, 95)] rfl rfl rfl ⟨_, _, _, rfl, by decide⟩
theorem nd11_74 : mP 11 (74, .inl (11, 1)) := mP_of (own := "PaperBreadModel") [(6, 60)] rfl rfl rfl ⟨_, _, _, rfl, by decide⟩
theorem nd11_77 : mP 11 (77, .inl (11, 0)) := mP_of (own := "PaperBreadModel") [(6, 59)] rfl rfl rfl ⟨_, _, _, rfl, by decide⟩
theorem nd11_80 : mP 11 (80, .inl (11, 2)) := mP_of (own := "PaperBreadModel") [(6, 61)] rfl rfl rfl ⟨_, _, _, rfl, by decide⟩
theorem nd11_83 : mP 11 (83, .inr (.inr (.inr (.inr 5)))) := mP_of (own := "PaperBreadModel") [(8, 120), (8, 121), (1, 19), (8, 122)] rfl rfl rfl trivial
theorem nd11_89 : mP 11 (89, .inr (.inl (false, mMo_no, 1))) := mP_of (own := "PaperBreadModel") [(6, 214), (1, 17), (6, 217), (6, 216), (0, 34)] rfl rfl rfl sn_mMo_no
theorem nd11_93 : mP 11 (93, .inr (.inl (false, mMo_trayed, 1))) := mP_of (own := "PaperBreadModel") [(6, 226), (1, 17), (6, 229), (6, 228), (0, 36)] rfl rfl rfl sn_mMo_trayed
theorem nd11_97 : mP 11 (97, .inr (.inl (false, mMo_placed, 2))) := mP_of (own := "PaperBreadModel") [(6, 222), (1, 17), (6, 225), (6, 224), (0, 35)] rfl rfl rfl sn_mMo_placed
theorem nd11_101 : mP 11 (101, .inr (.inl (true, mMo_cut, 2))) := mP_of (own := "PaperBreadModel") [(6, 230), (1, 17), (6, 232), (6, 231)] rfl rfl rfl sn_mMo_cut
theorem nd11_105 : mP 11 (105, .inr (.inr (.inr (.inl (-1))))) := mP_of (own := "PaperBreadModel") [(6, 237)] rfl rfl rfl trivial
theorem nd11_107 : mP 11 (107, .inr (.inr (.inr (.inl (3))))) := mP_of (own := "PaperBreadModel") [(8, 183)] rfl rfl rfl trivial
theorem nd11_109 : mP 11 (109, .inr (.inl (true, mMo_isIn, 3))) := mP_of (own := "PaperBreadModel") [(7, 166), (1, 17), (7, 168), (7, 167)] rfl rfl rfl sn_mMo_isIn
theorem nd11_113 : mP 11 (113, .inl (11, 9)) := mP_of (own := "PaperBreadModel") [(6, 68)] rfl rfl rfl ⟨_, _, _, rfl, by decide⟩
theorem nd11_116 : mP 11 (116, .inl (11, 16)) := mP_of (own := "PaperBreadModel") [(6, 75)] rfl rfl rfl ⟨_, _, _, rfl, by decide⟩
theorem nd11_119 : mP 11 (119, .inl (11, 15)) := mP_of (own := "PaperBreadModel") [(6, 74)] rfl rfl rfl ⟨_, _, _, rfl, by decide⟩
theorem nd11_122 : mP 11 (122, .inr (.inl (false, mMo_look2, 1))) := mP_of (own := "PaperBreadModel") [(7, 26), (1, 17), (7, 29), (7, 28), (0, 40)] rfl rfl rfl sn_mMo_look2
theorem nd11_125 : mP 11 (125, .inl (11, 14)) := mP_of (own := "PaperBreadModel") [(6, 73)] rfl rfl rfl ⟨_, _, _, rfl, by decide⟩
theorem nd11_128 : mP 11 (128, .inr (.inl (true, mMo_isLetter, 1))) := mP_of (own := "PaperBreadModel") [(7, 30), (1, 17), (7, 32), (7, 31)] rfl rfl rfl sn_mMo_isLetter
theorem nd11_131 : mP 11 (131, .inl (11, 19)) := mP_of (own := "PaperBreadModel") [(6, 78)] rfl rfl rfl ⟨_, _, _, rfl, by decide⟩
theorem nd11_134 : mP 11 (134, .inr (.inr (.inr (.inl (32))))) := mP_of (own := "PaperBreadModel") [(7, 33)] rfl rfl rfl trivial
theorem nd11_136 : mP 11 (136, .inr (.inr (.inr (.inl (96))))) := mP_of (own := "PaperBreadModel") [(7, 34)] rfl rfl rfl trivial
theorem nd11_138 : mP 11 (138, .inl (11, 18)) := mP_of (own := "PaperBreadModel") [(6, 77)] rfl rfl rfl ⟨_, _, _, rfl, by decide⟩
theorem nd11_141 : mP 11 (141, .inr (.inl (true, mMo_isDigit, 1))) := mP_of (own := "PaperBreadModel") [(7, 35), (1, 17), (7, 37), (7, 36)] rfl rfl rfl sn_mMo_isDigit
theorem nd11_144 : mP 11 (144, .inl (11, 17)) := mP_of (own := "PaperBreadModel") [(6, 76)] rfl rfl rfl ⟨_, _, _, rfl, by decide⟩
theorem nd11_147 : mP 11 (147, .inr (.inl (false, mMo_isSignByte, 1))) := mP_of (own := "PaperBreadModel") [(7, 38), (1, 17), (7, 41), (7, 40), (0, 41)] rfl rfl rfl sn_mMo_isSignByte
theorem nd11_150 : mP 11 (150, .inr (.inl (true, mMo_spelled, 6))) := mP_of (own := "PaperBreadModel") [(7, 46), (1, 17), (7, 48), (7, 47)] rfl rfl rfl sn_mMo_spelled
theorem nd11_154 : mP 11 (154, .inr (.inl (false, mMo_isWord, 1))) := mP_of (own := "PaperBreadModel") [(7, 49), (1, 17), (7, 52), (7, 51), (0, 43)] rfl rfl rfl sn_mMo_isWord
theorem nd11_158 : mP 11 (158, .inr (.inr (.inr (.inl (5))))) := mP_of (own := "PaperBreadModel") [(7, 133)] rfl rfl rfl trivial
theorem nd11_160 : mP 11 (160, .inr (.inl (false, mMo_isPromise, 0))) := mP_of (own := "PaperBreadModel") [(7, 129), (1, 17), (7, 132), (7, 131), (0, 63)] rfl rfl rfl sn_mMo_isPromise
theorem nd11_164 : mP 11 (164, .inr (.inl (false, mMo_isPerson, 0))) := mP_of (own := "PaperBreadModel") [(7, 42), (1, 17), (7, 45), (7, 44), (0, 42)] rfl rfl rfl sn_mMo_isPerson
theorem nd11_167 : mP 11 (167, .inr (.inl (false, mMo_isPurse, 0))) := mP_of (own := "PaperBreadModel") [(7, 73), (1, 17), (7, 76), (7, 75), (0, 49)] rfl rfl rfl sn_mMo_isPurse
theorem nd11_170 : mP 11 (170, .inr (.inl (false, mMo_isOven, 0))) := mP_of (own := "PaperBreadModel") [(7, 77), (1, 17), (7, 80), (7, 79), (0, 50)] rfl rfl rfl sn_mMo_isOven
theorem nd11_173 : mP 11 (173, .inr (.inl (false, mMo_isRain, 0))) := mP_of (own := "PaperBreadModel") [(7, 81), (1, 17), (7, 84), (7, 83), (0, 51)] rfl rfl rfl sn_mMo_isRain
theorem nd11_176 : mP 11 (176, .inr (.inl (false, mMo_isLoaf, 0))) := mP_of (own := "PaperBreadModel") [(7, 85), (1, 17), (7, 88), (7, 87), (0, 52)] rfl rfl rfl sn_mMo_isLoaf
theorem nd11_179 : mP 11 (179, .inr (.inl (false, mMo_isBy, 0))) := mP_of (own := "PaperBreadModel") [(7, 89), (1, 17), (7, 92), (7, 91), (0, 53)] rfl rfl rfl sn_mMo_isBy
theorem nd11_182 : mP 11 (182, .inr (.inl (false, mMo_isInWord, 0))) := mP_of (own := "PaperBreadModel") [(7, 93), (1, 17), (7, 96), (7, 95), (0, 54)] rfl rfl rfl sn_mMo_isInWord
theorem nd11_185 : mP 11 (185, .inr (.inl (false, mMo_isOn, 0))) := mP_of (own := "PaperBreadModel") [(7, 97), (1, 17), (7, 100), (7, 99), (0, 55)] rfl rfl rfl sn_mMo_isOn
theorem nd11_188 : mP 11 (188, .inr (.inl (false, mMo_isSlices, 0))) := mP_of (own := "PaperBreadModel") [(7, 101), (1, 17), (7, 104), (7, 103), (0, 56)] rfl rfl rfl sn_mMo_isSlices
theorem nd11_191 : mP 11 (191, .inr (.inl (false, mMo_isFlour, 0))) := mP_of (own := "PaperBreadModel") [(7, 105), (1, 17), (7, 108), (7, 107), (0, 57)] rfl rfl rfl sn_mMo_isFlour
theorem nd11_194 : mP 11 (194, .inr (.inl (false, mMo_isOf, 0))) := mP_of (own := "PaperBreadModel") [(7, 109), (1, 17), (7, 112), (7, 111), (0, 58)] rfl rfl rfl sn_mMo_isOf
theorem nd11_197 : mP 11 (197, .inr (.inl (false, mMo_isFrom, 0))) := mP_of (own := "PaperBreadModel") [(7, 113), (1, 17), (7, 116), (7, 115), (0, 59)] rfl rfl rfl sn_mMo_isFrom
theorem nd11_200 : mP 11 (200, .inr (.inl (false, mMo_isTo, 0))) := mP_of (own := "PaperBreadModel") [(7, 117), (1, 17), (7, 120), (7, 119), (0, 60)] rfl rfl rfl sn_mMo_isTo
theorem nd11_203 : mP 11 (203, .inr (.inl (false, mMo_isFor, 0))) := mP_of (own := "PaperBreadModel") [(7, 121), (1, 17), (7, 124), (7, 123), (0, 61)] rfl rfl rfl sn_mMo_isFor
theorem nd11_206 : mP 11 (206, .inr (.inl (false, mMo_stepWord, 0))) := mP_of (own := "PaperBreadModel") [(7, 125), (1, 17), (7, 128), (7, 127), (0, 62)] rfl rfl rfl sn_mMo_stepWord
theorem nd11_210 : mP 11 (210, .inr (.inl (false, mMo_testWord, 0))) := mP_of (own := "PaperBreadModel") [(7, 134), (1, 17), (7, 137), (7, 136), (0, 64)] rfl rfl rfl sn_mMo_testWord
theorem nd11_213 : mP 11 (213, .inr (.inl (false, mMo_isEnd, 0))) := mP_of (own := "PaperBreadModel") [(7, 138), (1, 17), (7, 141), (7, 140), (0, 65)] rfl rfl rfl sn_mMo_isEnd
theorem nd11_216 : mP 11 (216, .inr (.inl (false, mMo_isKept, 0))) := mP_of (own := "PaperBreadModel") [(7, 69), (1, 17), (7, 72), (7, 71), (0, 48)] rfl rfl rfl sn_mMo_isKept
theorem nd11_219 : mP 11 (219, .inl (11, 12)) := mP_of (own := "PaperBreadModel") [(6, 71)] rfl rfl rfl ⟨_, _, _, rfl, by decide⟩
theorem nd11_222 : mP 11 (222, .inl (11, 13)) := mP_of (own := "PaperBreadModel") [(6, 72)] rfl rfl rfl ⟨_, _, _, rfl, by decide⟩
theorem nd11_225 : mP 11 (225, .inr (.inl (false, mMo_fail, 2))) := mP_of (own := "PaperBreadModel") [(7, 57), (1, 17), (7, 60), (7, 59), (0, 45)] rfl rfl rfl sn_mMo_fail
theorem nd11_229 : mP 11 (229, .inr (.inl (false, mMo_next, 0))) := mP_of (own := "PaperBreadModel") [(7, 22), (1, 17), (7, 25), (7, 24), (0, 39)] rfl rfl rfl sn_mMo_next
theorem nd11_232 : mP 11 (232, .inr (.inl (false, mMo_wrong, 0))) := mP_of (own := "PaperBreadModel") [(7, 142), (1, 17), (7, 145), (7, 144), (0, 66)] rfl rfl rfl sn_mMo_wrong
theorem nd11_235 : mP 11 (235, .inl (11, 8)) := mP_of (own := "PaperBreadModel") [(6, 67)] rfl rfl rfl ⟨_, _, _, rfl, by decide⟩
theorem nd11_238 : mP 11 (238, .inr (.inl (false, mMo_lay, 1))) := mP_of (own := "PaperBreadModel") [(7, 6), (1, 17), (7, 9), (7, 8), (0, 37)] rfl rfl rfl sn_mMo_lay
theorem nd11_242 : mP 11 (242, .inr (.inl (false, mMo_named, 3))) := mP_of (own := "PaperBreadModel") [(7, 150), (1, 17), (7, 153), (7, 152), (0, 68)] rfl rfl rfl sn_mMo_named
theorem nd11_246 : mP 11 (246, .inr (.inl (false, mMo_isName, 0))) := mP_of (own := "PaperBreadModel") [(7, 65), (1, 17), (7, 68), (7, 67), (0, 47)] rfl rfl rfl sn_mMo_isName
theorem nd11_249 : mP 11 (249, .inr (.inl (false, mMo_personNamed, 1))) := mP_of (own := "PaperBreadModel") [(7, 146), (1, 17), (7, 149), (7, 148), (0, 67)] rfl rfl rfl sn_mMo_personNamed
theorem nd11_252 : mP 11 (252, .inr (.inl (false, mMo_ovenNamed, 1))) := mP_of (own := "PaperBreadModel") [(7, 154), (1, 17), (7, 157), (7, 156), (0, 69)] rfl rfl rfl sn_mMo_ovenNamed
theorem nd11_255 : mP 11 (255, .inr (.inl (false, mMo_loafNamed, 1))) := mP_of (own := "PaperBreadModel") [(7, 158), (1, 17), (7, 161), (7, 160), (0, 70)] rfl rfl rfl sn_mMo_loafNamed
theorem nd11_258 : mP 11 (258, .inr (.inr (.inr (.inr 2)))) := mP_of (own := "PaperBreadModel") [(7, 189), (3, 168), (1, 19), (3, 169)] rfl rfl rfl trivial
theorem nd11_261 : mP 11 (261, .inr (.inl (false, mMo_told, 2))) := mP_of (own := "PaperBreadModel") [(7, 185), (1, 17), (7, 188), (7, 187), (0, 76)] rfl rfl rfl sn_mMo_told
theorem nd11_264 : mP 11 (264, .inr (.inl (false, mMo_must, 1))) := mP_of (own := "PaperBreadModel") [(7, 177), (1, 17), (7, 180), (7, 179), (0, 74)] rfl rfl rfl sn_mMo_must
theorem nd11_268 : mP 11 (268, .inr (.inl (false, mMo_readNew, 1))) := mP_of (own := "PaperBreadModel") [(7, 61), (1, 17), (7, 64), (7, 63), (0, 46)] rfl rfl rfl sn_mMo_readNew
theorem nd11_271 : mP 11 (271, .inr (.inl (false, mMo_count, 2))) := mP_of (own := "PaperBreadModel") [(7, 162), (1, 17), (7, 165), (7, 164), (0, 71)] rfl rfl rfl sn_mMo_count
theorem nd11_274 : mP 11 (274, .inr (.inl (false, mMo_readTold, 2))) := mP_of (own := "PaperBreadModel") [(7, 181), (1, 17), (7, 184), (7, 183), (0, 75)] rfl rfl rfl sn_mMo_readTold
theorem nd11_277 : mP 11 (277, .inr (.inl (false, mMo_readPart, 2))) := mP_of (own := "PaperBreadModel") [(7, 194), (1, 17), (7, 197), (7, 196), (0, 78)] rfl rfl rfl sn_mMo_readPart
theorem nd11_280 : mP 11 (280, .inr (.inl (false, mMo_opens, 2))) := mP_of (own := "PaperBreadModel") [(7, 18), (1, 17), (7, 21), (7, 20), (0, 38)] rfl rfl rfl sn_mMo_opens
theorem nd11_284 : mP 11 (284, .inr (.inl (false, mMo_readPerson, 0))) := mP_of (own := "PaperBreadModel") [(7, 53), (1, 17), (7, 56), (7, 55), (0, 44)] rfl rfl rfl sn_mMo_readPerson
theorem nd11_287 : mP 11 (287, .inr (.inl (false, mMo_readOven, 0))) := mP_of (own := "PaperBreadModel") [(7, 169), (1, 17), (7, 172), (7, 171), (0, 72)] rfl rfl rfl sn_mMo_readOven
theorem nd11_290 : mP 11 (290, .inr (.inl (false, mMo_readLoaf, 0))) := mP_of (own := "PaperBreadModel") [(7, 173), (1, 17), (7, 176), (7, 175), (0, 73)] rfl rfl rfl sn_mMo_readLoaf
theorem nd11_293 : mP 11 (293, .inr (.inl (false, mMo_readPromise, 0))) := mP_of (own := "PaperBreadModel") [(7, 190), (1, 17), (7, 193), (7, 192), (0, 77)] rfl rfl rfl sn_mMo_readPromise
theorem nd11_296 : mP 11 (296, .inr (.inl (false, mMo_isSign, 1))) := mP_of (own := "PaperBreadModel") [(7, 198), (1, 17), (7, 201), (7, 200), (0, 79)] rfl rfl rfl sn_mMo_isSign
theorem nd11_299 : mP 11 (299, .inr (.inl (false, mMo_isWell, 0))) := mP_of (own := "PaperBreadModel") [(7, 202), (1, 17), (7, 205), (7, 204), (0, 80)] rfl rfl rfl sn_mMo_isWell
theorem nd11_302 : mP 11 (302, .inr (.inl (false, mMo_copy, 2))) := mP_of (own := "PaperBreadModel") [(7, 206), (1, 17), (7, 209), (7, 208), (0, 81)] rfl rfl rfl sn_mMo_copy
theorem nd11_305 : mP 11 (305, .inr (.inl (false, mMo_readTest, 1))) := mP_of (own := "PaperBreadModel") [(7, 222), (1, 17), (7, 225), (7, 224), (0, 84)] rfl rfl rfl sn_mMo_readTest
theorem nd11_308 : mP 11 (308, .inl (11, 24)) := mP_of (own := "PaperBreadModel") [(6, 83)] rfl rfl rfl ⟨_, _, _, rfl, by decide⟩
theorem nd11_311 : mP 11 (311, .inr (.inl (false, mMo_readRest, 1))) := mP_of (own := "PaperBreadModel") [(7, 218), (1, 17), (7, 221), (7, 220), (0, 83)] rfl rfl rfl sn_mMo_readRest
theorem nd11_314 : mP 11 (314, .inr (.inl (false, mMo_readStep, 1))) := mP_of (own := "PaperBreadModel") [(7, 214), (1, 17), (7, 217), (7, 216), (0, 82)] rfl rfl rfl sn_mMo_readStep
theorem nd11_317 : mP 11 (317, .inr (.inl (true, mMo_part, 1))) := mP_of (own := "PaperBreadModel") [(8, 30), (1, 17), (8, 32), (8, 31)] rfl rfl rfl sn_mMo_part
theorem nd11_320 : mP 11 (320, .inr (.inl (false, mMo_isMade, 1))) := mP_of (own := "PaperBreadModel") [(8, 45), (1, 17), (8, 48), (8, 47), (0, 94)] rfl rfl rfl sn_mMo_isMade
theorem nd11_323 : mP 11 (323, .inr (.inl (false, mMo_isBaked, 1))) := mP_of (own := "PaperBreadModel") [(7, 234), (1, 17), (7, 237), (7, 236), (0, 86)] rfl rfl rfl sn_mMo_isBaked
theorem nd11_326 : mP 11 (326, .inr (.inl (false, mMo_bakedSet, 0))) := mP_of (own := "PaperBreadModel") [(7, 230), (1, 17), (7, 233), (7, 232), (0, 85)] rfl rfl rfl sn_mMo_bakedSet
theorem nd11_329 : mP 11 (329, .inr (.inl (false, mMo_refuse, 1))) := mP_of (own := "PaperBreadModel") [(7, 238), (1, 17), (8, 1), (8, 0), (0, 87)] rfl rfl rfl sn_mMo_refuse
theorem nd11_332 : mP 11 (332, .inr (.inl (false, mMo_isPersonAt, 1))) := mP_of (own := "PaperBreadModel") [(8, 6), (1, 17), (8, 9), (8, 8), (0, 88)] rfl rfl rfl sn_mMo_isPersonAt
theorem nd11_335 : mP 11 (335, .inr (.inl (false, mMo_isLoafAt, 1))) := mP_of (own := "PaperBreadModel") [(8, 14), (1, 17), (8, 17), (8, 16), (0, 89)] rfl rfl rfl sn_mMo_isLoafAt
theorem nd11_338 : mP 11 (338, .inr (.inl (false, mMo_isPaper, 1))) := mP_of (own := "PaperBreadModel") [(8, 18), (1, 17), (8, 21), (8, 20), (0, 90)] rfl rfl rfl sn_mMo_isPaper
theorem nd11_341 : mP 11 (341, .inr (.inl (false, mMo_isPromiseAt, 1))) := mP_of (own := "PaperBreadModel") [(8, 26), (1, 17), (8, 29), (8, 28), (0, 91)] rfl rfl rfl sn_mMo_isPromiseAt
theorem nd11_344 : mP 11 (344, .inr (.inl (false, mMo_isOfLoaf, 2))) := mP_of (own := "PaperBreadModel") [(8, 41), (1, 17), (8, 44), (8, 43), (0, 93)] rfl rfl rfl sn_mMo_isOfLoaf
theorem nd11_347 : mP 11 (347, .inr (.inl (false, mMo_holdsOf, 2))) := mP_of (own := "PaperBreadModel") [(8, 37), (1, 17), (8, 40), (8, 39), (0, 92)] rfl rfl rfl sn_mMo_holdsOf
theorem nd11_350 : mP 11 (350, .inr (.inl (false, mMo_deepens, 0))) := mP_of (own := "PaperBreadModel") [(8, 53), (1, 17), (8, 56), (8, 55), (0, 95)] rfl rfl rfl sn_mMo_deepens
theorem nd11_353 : mP 11 (353, .inr (.inr (.inl (1000000)))) := mP_of (own := "PaperBreadModel") [(8, 69)] rfl rfl rfl trivial
theorem nd11_354 : mP 11 (354, .inr (.inl (false, mMo_turnOf, 2))) := mP_of (own := "PaperBreadModel") [(8, 65), (1, 17), (8, 68), (8, 67), (0, 96)] rfl rfl rfl sn_mMo_turnOf
theorem nd11_357 : mP 11 (357, .inl (11, 28)) := mP_of (own := "PaperBreadModel") [(6, 87)] rfl rfl rfl ⟨_, _, _, rfl, by decide⟩
theorem nd11_360 : mP 11 (360, .inr (.inl (false, mMo_lines, 1))) := mP_of (own := "PaperBreadModel") [(8, 74), (1, 17), (8, 77), (8, 76), (0, 97)] rfl rfl rfl sn_mMo_lines
theorem nd11_363 : mP 11 (363, .inr (.inl (false, mMo_comes, 2))) := mP_of (own := "PaperBreadModel") [(8, 86), (1, 17), (8, 89), (8, 88), (0, 99)] rfl rfl rfl sn_mMo_comes
theorem nd11_367 : mP 11 (367, .inr (.inr (.inr (.inr 3)))) := mP_of (own := "PaperBreadModel") [(8, 90), (3, 165), (1, 19), (3, 166)] rfl rfl rfl trivial
theorem nd11_370 : mP 11 (370, .inr (.inl (false, mMo_deals, 2))) := mP_of (own := "PaperBreadModel") [(8, 82), (1, 17), (8, 85), (8, 84), (0, 98)] rfl rfl rfl sn_mMo_deals
theorem nd11_374 : mP 11 (374, .inr (.inl (false, mMo_getsOf, 3))) := mP_of (own := "PaperBreadModel") [(8, 95), (1, 17), (8, 98), (8, 97), (0, 100)] rfl rfl rfl sn_mMo_getsOf
theorem nd11_378 : mP 11 (378, .inr (.inl (false, mMo_unmet, 2))) := mP_of (own := "PaperBreadModel") [(8, 103), (1, 17), (8, 106), (8, 105), (0, 101)] rfl rfl rfl sn_mMo_unmet
theorem nd11_381 : mP 11 (381, .inr (.inl (false, mMo_owesOf, 2))) := mP_of (own := "PaperBreadModel") [(8, 107), (1, 17), (8, 110), (8, 109), (0, 102)] rfl rfl rfl sn_mMo_owesOf
theorem nd11_384 : mP 11 (384, .inr (.inr (.inr (.inl (16))))) := mP_of (own := "PaperBreadModel") [(8, 115)] rfl rfl rfl trivial
theorem nd11_386 : mP 11 (386, .inr (.inl (false, mMo_fraction, 2))) := mP_of (own := "PaperBreadModel") [(8, 116), (1, 17), (8, 119), (8, 118), (0, 103)] rfl rfl rfl sn_mMo_fraction
theorem nd11_390 : mP 11 (390, .inr (.inl (false, mMo_netOf, 1))) := mP_of (own := "PaperBreadModel") [(8, 135), (1, 17), (8, 138), (8, 137), (0, 104)] rfl rfl rfl sn_mMo_netOf
theorem nd11_393 : mP 11 (393, .inr (.inl (true, mMo_has, 2))) := mP_of (own := "PaperBreadModel") [(8, 143), (1, 17), (8, 145), (8, 144)] rfl rfl rfl sn_mMo_has
theorem nd11_396 : mP 11 (396, .inr (.inl (false, mMo_goesRound, 3))) := mP_of (own := "PaperBreadModel") [(8, 150), (1, 17), (8, 153), (8, 152), (0, 105)] rfl rfl rfl sn_mMo_goesRound
theorem nd11_400 : mP 11 (400, .inl (11, 33)) := mP_of (own := "PaperBreadModel") [(6, 92)] rfl rfl rfl ⟨_, _, _, rfl, by decide⟩
theorem nd11_403 : mP 11 (403, .inr (.inr (.inr (.inl (999))))) := mP_of (own := "PaperBreadModel") [(8, 162)] rfl rfl rfl trivial
theorem nd11_405 : mP 11 (405, .inr (.inl (false, mMo_isOpen, 1))) := mP_of (own := "PaperBreadModel") [(8, 163), (1, 17), (8, 166), (8, 165), (0, 106)] rfl rfl rfl sn_mMo_isOpen
theorem nd11_408 : mP 11 (408, .inr (.inl (false, mMo_isHeld, 1))) := mP_of (own := "PaperBreadModel") [(8, 171), (1, 17), (8, 174), (8, 173), (0, 107)] rfl rfl rfl sn_mMo_isHeld
theorem nd11_411 : mP 11 (411, .inr (.inl (false, mMo_isTray, 1))) := mP_of (own := "PaperBreadModel") [(8, 179), (1, 17), (8, 182), (8, 181), (0, 108)] rfl rfl rfl sn_mMo_isTray
theorem nd11_414 : mP 11 (414, .inr (.inr (.inr (.inl (60))))) := mP_of (own := "PaperBreadModel") [(8, 184)] rfl rfl rfl trivial
theorem nd11_416 : mP 11 (416, .inr (.inl (false, mMo_numberOf, 2))) := mP_of (own := "PaperBreadModel") [(8, 185), (1, 17), (8, 188), (8, 187), (0, 109)] rfl rfl rfl sn_mMo_numberOf
theorem nd11_420 : mP 11 (420, .inr (.inr (.inr (.inl (2))))) := mP_of (own := "PaperBreadModel") [(8, 197)] rfl rfl rfl trivial
theorem nd11_422 : mP 11 (422, .inr (.inr (.inr (.inl (8))))) := mP_of (own := "PaperBreadModel") [(8, 198)] rfl rfl rfl trivial
theorem nd11_424 : mP 11 (424, .inr (.inr (.inr (.inl (40))))) := mP_of (own := "PaperBreadModel") [(8, 199)] rfl rfl rfl trivial
theorem nd11_426 : mP 11 (426, .inr (.inr (.inr (.inl (9999))))) := mP_of (own := "PaperBreadModel") [(8, 204)] rfl rfl rfl trivial
theorem nd11_428 : mP 11 (428, .inr (.inr (.inr (.inr 4)))) := mP_of (own := "PaperBreadModel") [(8, 205), (8, 206), (1, 19), (8, 207)] rfl rfl rfl trivial
theorem nd11_431 : mP 11 (431, .inr (.inr (.inr (.inl (99))))) := mP_of (own := "PaperBreadModel") [(8, 212)] rfl rfl rfl trivial
theorem nd11_433 : mP 11 (433, .inr (.inl (false, mMo_makes, 5))) := mP_of (own := "PaperBreadModel") [(8, 213), (1, 17), (8, 216), (8, 215), (0, 110)] rfl rfl rfl sn_mMo_makes
theorem nd11_437 : mP 11 (437, .inr (.inl (false, mMo_breaks, 1))) := mP_of (own := "PaperBreadModel") [(8, 221), (1, 17), (8, 224), (8, 223), (0, 111)] rfl rfl rfl sn_mMo_breaks
theorem nd11_440 : mP 11 (440, .inr (.inl (false, mMo_isWetOven, 1))) := mP_of (own := "PaperBreadModel") [(8, 233), (1, 17), (8, 236), (8, 235), (0, 113)] rfl rfl rfl sn_mMo_isWetOven
theorem nd11_443 : mP 11 (443, .inr (.inl (false, mMo_bakes, 1))) := mP_of (own := "PaperBreadModel") [(8, 229), (1, 17), (8, 232), (8, 231), (0, 112)] rfl rfl rfl sn_mMo_bakes
theorem nd11_446 : mP 11 (446, .inr (.inr (.inr (.inl (9))))) := mP_of (own := "PaperBreadModel") [(9, 1)] rfl rfl rfl trivial
theorem nd11_448 : mP 11 (448, .inr (.inl (false, mMo_eats, 2))) := mP_of (own := "PaperBreadModel") [(9, 6), (1, 17), (9, 9), (9, 8), (0, 114)] rfl rfl rfl sn_mMo_eats
theorem nd11_451 : mP 11 (451, .inr (.inl (false, mMo_pays, 3))) := mP_of (own := "PaperBreadModel") [(9, 14), (1, 17), (9, 17), (9, 16), (0, 115)] rfl rfl rfl sn_mMo_pays
theorem nd11_454 : mP 11 (454, .inl (11, 39)) := mP_of (own := "PaperBreadModel") [(6, 98)] rfl rfl rfl ⟨_, _, _, rfl, by decide⟩
theorem nd11_457 : mP 11 (457, .inr (.inr (.inl (65536)))) := mP_of (own := "PaperBreadModel") [(9, 46)] rfl rfl rfl trivial
theorem nd11_458 : mP 11 (458, .inr (.inl (false, mMo_draw, 0))) := mP_of (own := "PaperBreadModel") [(9, 42), (1, 17), (9, 45), (9, 44), (0, 121)] rfl rfl rfl sn_mMo_draw
theorem nd11_461 : mP 11 (461, .inl (11, 42)) := mP_of (own := "PaperBreadModel") [(6, 101)] rfl rfl rfl ⟨_, _, _, rfl, by decide⟩
theorem nd11_464 : mP 11 (464, .inl (11, 44)) := mP_of (own := "PaperBreadModel") [(6, 103)] rfl rfl rfl ⟨_, _, _, rfl, by decide⟩
theorem nd11_467 : mP 11 (467, .inr (.inl (false, mMo_waits, 1))) := mP_of (own := "PaperBreadModel") [(9, 38), (1, 17), (9, 41), (9, 40), (0, 120)] rfl rfl rfl sn_mMo_waits
theorem nd11_470 : mP 11 (470, .inl (11, 43)) := mP_of (own := "PaperBreadModel") [(6, 102)] rfl rfl rfl ⟨_, _, _, rfl, by decide⟩
theorem nd11_473 : mP 11 (473, .inl (11, 40)) := mP_of (own := "PaperBreadModel") [(6, 99)] rfl rfl rfl ⟨_, _, _, rfl, by decide⟩
theorem nd11_476 : mP 11 (476, .inl (11, 38)) := mP_of (own := "PaperBreadModel") [(6, 97)] rfl rfl rfl ⟨_, _, _, rfl, by decide⟩
theorem nd11_480 : mP 11 (480, .inl (11, 45)) := mP_of (own := "PaperBreadModel") [(6, 104)] rfl rfl rfl ⟨_, _, _, rfl, by decide⟩
theorem nd11_483 : mP 11 (483, .inl (11, 41)) := mP_of (own := "PaperBreadModel") [(6, 100)] rfl rfl rfl ⟨_, _, _, rfl, by decide⟩
theorem nd11_486 : mP 11 (486, .inr (.inl (false, mMo_does, 1))) := mP_of (own := "PaperBreadModel") [(9, 34), (1, 17), (9, 37), (9, 36), (0, 119)] rfl rfl rfl sn_mMo_does
theorem nd11_489 : mP 11 (489, .inr (.inl (false, mMo_isSo, 1))) := mP_of (own := "PaperBreadModel") [(9, 47), (1, 17), (9, 50), (9, 49), (0, 122)] rfl rfl rfl sn_mMo_isSo
theorem nd11_492 : mP 11 (492, .inr (.inl (false, mMo_doAll, 2))) := mP_of (own := "PaperBreadModel") [(9, 26), (1, 17), (9, 29), (9, 28), (0, 117)] rfl rfl rfl sn_mMo_doAll
theorem nd11_495 : mP 11 (495, .inr (.inl (false, mMo_doOne, 1))) := mP_of (own := "PaperBreadModel") [(9, 30), (1, 17), (9, 33), (9, 32), (0, 118)] rfl rfl rfl sn_mMo_doOne
theorem nd11_498 : mP 11 (498, .inr (.inl (false, mMo_lives, 1))) := mP_of (own := "PaperBreadModel") [(9, 22), (1, 17), (9, 25), (9, 24), (0, 116)] rfl rfl rfl sn_mMo_lives
theorem nd11_501 : mP 11 (501, .inl (11, 37)) := mP_of (own := "PaperBreadModel") [(6, 96)] rfl rfl rfl ⟨_, _, _, rfl, by decide⟩
theorem nd11_504 : mP 11 (504, .inr (.inr (.inr (.inl (4))))) := mP_of (own := "PaperBreadModel") [(9, 55)] rfl rfl rfl trivial
theorem nd11_506 : mP 11 (506, .inr (.inr (.inr (.inl (20))))) := mP_of (own := "PaperBreadModel") [(9, 60)] rfl rfl rfl trivial
theorem nd11_508 : mP 11 (508, .inl (11, 23)) := mP_of (own := "PaperBreadModel") [(6, 82)] rfl rfl rfl ⟨_, _, _, rfl, by decide⟩
theorem nd11 : ∀ q ∈ mRL11, mP 11 q := List.forall_mem_cons.mpr ⟨nd11_7, List.forall_mem_cons.mpr ⟨nd11_13, List.forall_mem_cons.mpr ⟨nd11_17, List.forall_mem_cons.mpr ⟨nd11_20, List.forall_mem_cons.mpr ⟨nd11_24, List.forall_mem_cons.mpr ⟨nd11_28, List.forall_mem_cons.mpr ⟨nd11_32, List.forall_mem_cons.mpr ⟨nd11_35, List.forall_mem_cons.mpr ⟨nd11_38, List.forall_mem_cons.mpr ⟨nd11_41, List.forall_mem_cons.mpr ⟨nd11_44, List.forall_mem_cons.mpr ⟨nd11_47, List.forall_mem_cons.mpr ⟨nd11_50, List.forall_mem_cons.mpr ⟨nd11_53, List.forall_mem_cons.mpr ⟨nd11_56, List.forall_mem_cons.mpr ⟨nd11_59, List.forall_mem_cons.mpr ⟨nd11_62, List.forall_mem_cons.mpr ⟨nd11_65, List.forall_mem_cons.mpr ⟨nd11_68, List.forall_mem_cons.mpr ⟨nd11_71, List.forall_mem_cons.mpr ⟨nd11_74, List.forall_mem_cons.mpr ⟨nd11_77, List.forall_mem_cons.mpr ⟨nd11_80, List.forall_mem_cons.mpr ⟨nd11_83, List.forall_mem_cons.mpr ⟨nd11_89, List.forall_mem_cons.mpr ⟨nd11_93, List.forall_mem_cons.mpr ⟨nd11_97, List.forall_mem_cons.mpr ⟨nd11_101, List.forall_mem_cons.mpr ⟨nd11_105, List.forall_mem_cons.mpr ⟨nd11_107, List.forall_mem_cons.mpr ⟨nd11_109, List.forall_mem_cons.mpr ⟨nd11_113, List.forall_mem_cons.mpr ⟨nd11_116, List.forall_mem_cons.mpr ⟨nd11_119, List.forall_mem_cons.mpr ⟨nd11_122, List.forall_mem_cons.mpr ⟨nd11_125, List.forall_mem_cons.mpr ⟨nd11_128, List.forall_mem_cons.mpr ⟨nd11_131, List.forall_mem_cons.mpr ⟨nd11_134, List.forall_mem_cons.mpr ⟨nd11_136, List.forall_mem_cons.mpr ⟨nd11_138, List.forall_mem_cons.mpr ⟨nd11_141, List.forall_mem_cons.mpr ⟨nd11_144, List.forall_mem_cons.mpr ⟨nd11_147, List.forall_mem_cons.mpr ⟨nd11_150, List.forall_mem_cons.mpr ⟨nd11_154, List.forall_mem_cons.mpr ⟨nd11_158, List.forall_mem_cons.mpr ⟨nd11_160, List.forall_mem_cons.mpr ⟨nd11_164, List.forall_mem_cons.mpr ⟨nd11_167, List.forall_mem_cons.mpr ⟨nd11_170, List.forall_mem_cons.mpr ⟨nd11_173, List.forall_mem_cons.mpr ⟨nd11_176, List.forall_mem_cons.mpr ⟨nd11_179, List.forall_mem_cons.mpr ⟨nd11_182, List.forall_mem_cons.mpr ⟨nd11_185, List.forall_mem_cons.mpr ⟨nd11_188, List.forall_mem_cons.mpr ⟨nd11_191, List.forall_mem_cons.mpr ⟨nd11_194, List.forall_mem_cons.mpr ⟨nd11_197, List.forall_mem_cons.mpr ⟨nd11_200, List.forall_mem_cons.mpr ⟨nd11_203, List.forall_mem_cons.mpr ⟨nd11_206, List.forall_mem_cons.mpr ⟨nd11_210, List.forall_mem_cons.mpr ⟨nd11_213, List.forall_mem_cons.mpr ⟨nd11_216, List.forall_mem_cons.mpr ⟨nd11_219, List.forall_mem_cons.mpr ⟨nd11_222, List.forall_mem_cons.mpr ⟨nd11_225, List.forall_mem_cons.mpr ⟨nd11_229, List.forall_mem_cons.mpr ⟨nd11_232, List.forall_mem_cons.mpr ⟨nd11_235, List.forall_mem_cons.mpr ⟨nd11_238, List.forall_mem_cons.mpr ⟨nd11_242, List.forall_mem_cons.mpr ⟨nd11_246, List.forall_mem_cons.mpr ⟨nd11_249, List.forall_mem_cons.mpr ⟨nd11_252, List.forall_mem_cons.mpr ⟨nd11_255, List.forall_mem_cons.mpr ⟨nd11_258, List.forall_mem_cons.mpr ⟨nd11_261, List.forall_mem_cons.mpr ⟨nd11_264, List.forall_mem_cons.mpr ⟨nd11_268, List.forall_mem_cons.mpr ⟨nd11_271, List.forall_mem_cons.mpr ⟨nd11_274, List.forall_mem_cons.mpr ⟨nd11_277, List.forall_mem_cons.mpr ⟨nd11_280, List.forall_mem_cons.mpr ⟨nd11_284, List.forall_mem_cons.mpr ⟨nd11_287, List.forall_mem_cons.mpr ⟨nd11_290, List.forall_mem_cons.mpr ⟨nd11_293, List.forall_mem_cons.mpr ⟨nd11_296, List.forall_mem_cons.mpr ⟨nd11_299, List.forall_mem_cons.mpr ⟨nd11_302, List.forall_mem_cons.mpr ⟨nd11_305, List.forall_mem_cons.mpr ⟨nd11_308, List.forall_mem_cons.mpr ⟨nd11_311, List.forall_mem_cons.mpr ⟨nd11_314, List.forall_mem_cons.mpr ⟨nd11_317, List.forall_mem_cons.mpr ⟨nd11_320, List.forall_mem_cons.mpr ⟨nd11_323, List.forall_mem_cons.mpr ⟨nd11_326, List.forall_mem_cons.mpr ⟨nd11_329, List.forall_mem_cons.mpr ⟨nd11_332, List.forall_mem_cons.mpr ⟨nd11_335, List.forall_mem_cons.mpr ⟨nd11_338, List.forall_mem_cons.mpr ⟨nd11_341, List.forall_mem_cons.mpr ⟨nd11_344, List.forall_mem_cons.mpr ⟨nd11_347, List.forall_mem_cons.mpr ⟨nd11_350, List.forall_mem_cons.mpr ⟨nd11_353, List.forall_mem_cons.mpr ⟨nd11_354, List.forall_mem_cons.mpr ⟨nd11_357, List.forall_mem_cons.mpr ⟨nd11_360, List.forall_mem_cons.mpr ⟨nd11_363, List.forall_mem_cons.mpr ⟨nd11_367, List.forall_mem_cons.mpr ⟨nd11_370, List.forall_mem_cons.mpr ⟨nd11_374, List.forall_mem_cons.mpr ⟨nd11_378, List.forall_mem_cons.mpr ⟨nd11_381, List.forall_mem_cons.mpr ⟨nd11_384, List.forall_mem_cons.mpr ⟨nd11_386, List.forall_mem_cons.mpr ⟨nd11_390, List.forall_mem_cons.mpr ⟨nd11_393, List.forall_mem_cons.mpr ⟨nd11_396, List.forall_mem_cons.mpr ⟨nd11_400, List.forall_mem_cons.mpr ⟨nd11_403, List.forall_mem_cons.mpr ⟨nd11_405, List.forall_mem_cons.mpr ⟨nd11_408, List.forall_mem_cons.mpr ⟨nd11_411, List.forall_mem_cons.mpr ⟨nd11_414, List.forall_mem_cons.mpr ⟨nd11_416, List.forall_mem_cons.mpr ⟨nd11_420, List.forall_mem_cons.mpr ⟨nd11_422, List.forall_mem_cons.mpr ⟨nd11_424, List.forall_mem_cons.mpr ⟨nd11_426, List.forall_mem_cons.mpr ⟨nd11_428, List.forall_mem_cons.mpr ⟨nd11_431, List.forall_mem_cons.mpr ⟨nd11_433, List.forall_mem_cons.mpr ⟨nd11_437, List.forall_mem_cons.mpr ⟨nd11_440, List.forall_mem_cons.mpr ⟨nd11_443, List.forall_mem_cons.mpr ⟨nd11_446, List.forall_mem_cons.mpr ⟨nd11_448, List.forall_mem_cons.mpr ⟨nd11_451, List.forall_mem_cons.mpr ⟨nd11_454, List.forall_mem_cons.mpr ⟨nd11_457, List.forall_mem_cons.mpr ⟨nd11_458, List.forall_mem_cons.mpr ⟨nd11_461, List.forall_mem_cons.mpr ⟨nd11_464, List.forall_mem_cons.mpr ⟨nd11_467, List.forall_mem_cons.mpr ⟨nd11_470, List.forall_mem_cons.mpr ⟨nd11_473, List.forall_mem_cons.mpr ⟨nd11_476, List.forall_mem_cons.mpr ⟨nd11_480, List.forall_mem_cons.mpr ⟨nd11_483, List.forall_mem_cons.mpr ⟨nd11_486, List.forall_mem_cons.mpr ⟨nd11_489, List.forall_mem_cons.mpr ⟨nd11_492, List.forall_mem_cons.mpr ⟨nd11_495, List.forall_mem_cons.mpr ⟨nd11_498, List.forall_mem_cons.mpr ⟨nd11_501, List.forall_mem_cons.mpr ⟨nd11_504, List.forall_mem_cons.mpr ⟨nd11_506, List.forall_mem_cons.mpr ⟨nd11_508, fun _ h => absurd h List.not_mem_nil⟩⟩⟩⟩⟩⟩⟩⟩⟩⟩⟩⟩⟩⟩⟩⟩⟩⟩⟩⟩⟩⟩⟩⟩⟩⟩⟩⟩⟩⟩⟩⟩⟩⟩⟩⟩⟩⟩⟩⟩⟩⟩⟩⟩⟩⟩⟩⟩⟩⟩⟩⟩⟩⟩⟩⟩⟩⟩⟩⟩⟩⟩⟩⟩⟩⟩⟩⟩⟩⟩⟩⟩⟩⟩⟩⟩⟩⟩⟩⟩⟩⟩⟩⟩⟩⟩⟩⟩⟩⟩⟩⟩⟩⟩⟩⟩⟩⟩⟩⟩⟩⟩⟩⟩⟩⟩⟩⟩⟩⟩⟩⟩⟩⟩⟩⟩⟩⟩⟩⟩⟩⟩⟩⟩⟩⟩⟩⟩⟩⟩⟩⟩⟩⟩⟩⟩⟩⟩⟩⟩⟩⟩⟩⟩⟩⟩⟩⟩⟩⟩⟩⟩⟩⟩⟩⟩⟩⟩⟩⟩⟩⟩⟩⟩
theorem nd12_13 : mP 12 (13, .inr (.inl (false, mPb_status, 0))) := mP_of (own := "PaperBreadLaw") [(3, 31), (1, 1), (3, 34), (3, 32), (3, 33)] rfl rfl rfl sn_mPb_status
theorem nd12_17 : mP 12 (17, .inr (.inl (false, mMo_status, 0))) := mP_of (own := "PaperBreadLaw") [(6, 198), (1, 17), (6, 201), (6, 199), (6, 200)] rfl rfl rfl sn_mMo_status
theorem nd12_18 : mP 12 (18, .inr (.inl (false, mPb_top, 0))) := mP_of (own := "PaperBreadLaw") [(3, 35), (1, 1), (3, 38), (3, 36), (3, 37)] rfl rfl rfl sn_mPb_top
theorem nd12_22 : mP 12 (22, .inr (.inl (false, mMo_top, 0))) := mP_of (own := "PaperBreadLaw") [(6, 202), (1, 17), (6, 205), (6, 203), (6, 204)] rfl rfl rfl sn_mMo_top
theorem nd12_23 : mP 12 (23, .inr (.inl (false, mPb_bottom, 0))) := mP_of (own := "PaperBreadLaw") [(3, 39), (1, 1), (3, 42), (3, 40), (3, 41)] rfl rfl rfl sn_mPb_bottom
theorem nd12_26 : mP 12 (26, .inr (.inl (false, mMo_bottom, 0))) := mP_of (own := "PaperBreadLaw") [(6, 206), (1, 17), (6, 209), (6, 207), (6, 208)] rfl rfl rfl sn_mMo_bottom
theorem nd12_27 : mP 12 (27, .inr (.inl (false, mPb_tray, 3))) := mP_of (own := "PaperBreadLaw") [(3, 43), (1, 1), (3, 46), (3, 44), (3, 45)] rfl rfl rfl sn_mPb_tray
theorem nd12_31 : mP 12 (31, .inr (.inl (false, mMo_tray, 3))) := mP_of (own := "PaperBreadLaw") [(6, 210), (1, 17), (6, 213), (6, 211), (6, 212)] rfl rfl rfl sn_mMo_tray
theorem nd12_32 : mP 12 (32, .inr (.inr (.inr (.inl (4294967295))))) := mP_of (own := "PaperBreadLaw") [(9, 69)] rfl rfl rfl trivial
theorem nd12_34 : mP 12 (34, .inr (.inl (false, mPb_write, 3))) := mP_of (own := "PaperBreadLaw") [(3, 68), (1, 1), (3, 71), (3, 69), (3, 70)] rfl rfl rfl sn_mPb_write
theorem nd12_38 : mP 12 (38, .inr (.inl (false, mMo_write, 3))) := mP_of (own := "PaperBreadLaw") [(6, 218), (1, 17), (6, 221), (6, 219), (6, 220)] rfl rfl rfl sn_mMo_write
theorem nd12_39 : mP 12 (39, .inr (.inl (false, mPb_read, 2))) := mP_of (own := "PaperBreadLaw") [(3, 95), (1, 1), (3, 98), (3, 96), (3, 97)] rfl rfl rfl sn_mPb_read
theorem nd12_43 : mP 12 (43, .inr (.inl (false, mMo_read, 2))) := mP_of (own := "PaperBreadLaw") [(6, 233), (1, 17), (6, 236), (6, 234), (6, 235)] rfl rfl rfl sn_mMo_read
theorem nd12_44 : mP 12 (44, .inr (.inl (false, mPb_pour, 5))) := mP_of (own := "PaperBreadLaw") [(3, 107), (1, 1), (3, 110), (3, 108), (3, 109)] rfl rfl rfl sn_mPb_pour
theorem nd12_48 : mP 12 (48, .inr (.inl (false, mMo_pour, 5))) := mP_of (own := "PaperBreadLaw") [(6, 238), (1, 17), (7, 1), (6, 239), (7, 0)] rfl rfl rfl sn_mMo_pour
theorem nd12_49 : mP 12 (49, .inr (.inl (false, mPb_feed, 5))) := mP_of (own := "PaperBreadLaw") [(3, 124), (1, 1), (3, 127), (3, 125), (3, 126)] rfl rfl rfl sn_mPb_feed
theorem nd12_53 : mP 12 (53, .inr (.inl (false, mMo_feed, 5))) := mP_of (own := "PaperBreadLaw") [(7, 2), (1, 17), (7, 5), (7, 3), (7, 4)] rfl rfl rfl sn_mMo_feed
theorem nd12_54 : mP 12 (54, .inr (.inl (false, mPb_town, 1))) := mP_of (own := "PaperBreadLaw") [(3, 137), (1, 1), (3, 140), (3, 138), (3, 139)] rfl rfl rfl sn_mPb_town
theorem nd12_58 : mP 12 (58, .inr (.inl (false, mMo_town, 1))) := mP_of (own := "PaperBreadLaw") [(7, 14), (1, 17), (7, 17), (7, 15), (7, 16)] rfl rfl rfl sn_mMo_town
theorem nd12_59 : mP 12 (59, .inr (.inl (false, mPb_days, 1))) := mP_of (own := "PaperBreadLaw") [(4, 90), (1, 1), (4, 93), (4, 91), (4, 92)] rfl rfl rfl sn_mPb_days
theorem nd12_62 : mP 12 (62, .inr (.inl (false, mMo_days, 1))) := mP_of (own := "PaperBreadLaw") [(7, 210), (1, 17), (7, 213), (7, 211), (7, 212)] rfl rfl rfl sn_mMo_days
theorem nd12_63 : mP 12 (63, .inr (.inl (false, mPb_fault, 1))) := mP_of (own := "PaperBreadLaw") [(4, 144), (1, 1), (4, 147), (4, 145), (4, 146)] rfl rfl rfl sn_mPb_fault
theorem nd12_66 : mP 12 (66, .inr (.inl (false, mMo_fault, 1))) := mP_of (own := "PaperBreadLaw") [(7, 10), (1, 17), (7, 13), (7, 11), (7, 12)] rfl rfl rfl sn_mMo_fault
theorem nd12_67 : mP 12 (67, .inr (.inl (false, mPb_many, 1))) := mP_of (own := "PaperBreadLaw") [(4, 148), (1, 1), (4, 151), (4, 149), (4, 150)] rfl rfl rfl sn_mPb_many
theorem nd12_70 : mP 12 (70, .inr (.inl (false, mMo_many, 1))) := mP_of (own := "PaperBreadLaw") [(7, 226), (1, 17), (7, 229), (7, 227), (7, 228)] rfl rfl rfl sn_mMo_many
theorem nd12_71 : mP 12 (71, .inr (.inl (false, mPb_person, 2))) := mP_of (own := "PaperBreadLaw") [(4, 152), (1, 1), (4, 155), (4, 153), (4, 154)] rfl rfl rfl sn_mPb_person
theorem nd12_75 : mP 12 (75, .inr (.inl (false, mMo_person, 2))) := mP_of (own := "PaperBreadLaw") [(8, 2), (1, 17), (8, 5), (8, 3), (8, 4)] rfl rfl rfl sn_mMo_person
theorem nd12_76 : mP 12 (76, .inr (.inl (false, mPb_loaf, 2))) := mP_of (own := "PaperBreadLaw") [(4, 157), (1, 1), (4, 160), (4, 158), (4, 159)] rfl rfl rfl sn_mPb_loaf
theorem nd12_79 : mP 12 (79, .inr (.inl (false, mMo_loaf, 2))) := mP_of (own := "PaperBreadLaw") [(8, 10), (1, 17), (8, 13), (8, 11), (8, 12)] rfl rfl rfl sn_mMo_loaf
theorem nd12_80 : mP 12 (80, .inr (.inl (false, mPb_promise, 2))) := mP_of (own := "PaperBreadLaw") [(4, 174), (1, 1), (4, 177), (4, 175), (4, 176)] rfl rfl rfl sn_mPb_promise
theorem nd12_83 : mP 12 (83, .inr (.inl (false, mMo_promise, 2))) := mP_of (own := "PaperBreadLaw") [(8, 22), (1, 17), (8, 25), (8, 23), (8, 24)] rfl rfl rfl sn_mMo_promise
theorem nd12_84 : mP 12 (84, .inr (.inl (false, mPb_holds, 2))) := mP_of (own := "PaperBreadLaw") [(4, 182), (1, 1), (4, 185), (4, 183), (4, 184)] rfl rfl rfl sn_mPb_holds
theorem nd12_87 : mP 12 (87, .inr (.inl (false, mMo_holds, 2))) := mP_of (own := "PaperBreadLaw") [(8, 33), (1, 17), (8, 36), (8, 34), (8, 35)] rfl rfl rfl sn_mMo_holds
theorem nd12_88 : mP 12 (88, .inr (.inl (false, mPb_deep, 1))) := mP_of (own := "PaperBreadLaw") [(4, 197), (1, 1), (4, 200), (4, 198), (4, 199)] rfl rfl rfl sn_mPb_deep
theorem nd12_91 : mP 12 (91, .inr (.inl (false, mMo_deep, 1))) := mP_of (own := "PaperBreadLaw") [(8, 49), (1, 17), (8, 52), (8, 50), (8, 51)] rfl rfl rfl sn_mMo_deep
theorem nd12_92 : mP 12 (92, .inr (.inl (false, mPb_first, 3))) := mP_of (own := "PaperBreadLaw") [(4, 207), (1, 1), (4, 210), (4, 208), (4, 209)] rfl rfl rfl sn_mPb_first
theorem nd12_96 : mP 12 (96, .inr (.inl (false, mMo_first, 3))) := mP_of (own := "PaperBreadLaw") [(8, 61), (1, 17), (8, 64), (8, 62), (8, 63)] rfl rfl rfl sn_mMo_first
theorem nd12_97 : mP 12 (97, .inr (.inl (false, mPb_line, 2))) := mP_of (own := "PaperBreadLaw") [(4, 211), (1, 1), (4, 214), (4, 212), (4, 213)] rfl rfl rfl sn_mPb_line
theorem nd12_100 : mP 12 (100, .inr (.inl (false, mMo_line, 2))) := mP_of (own := "PaperBreadLaw") [(8, 70), (1, 17), (8, 73), (8, 71), (8, 72)] rfl rfl rfl sn_mMo_line
theorem nd12_101 : mP 12 (101, .inr (.inl (false, mPb_whose, 3))) := mP_of (own := "PaperBreadLaw") [(4, 215), (1, 1), (4, 218), (4, 216), (4, 217)] rfl rfl rfl sn_mPb_whose
theorem nd12_105 : mP 12 (105, .inr (.inl (false, mMo_whose, 3))) := mP_of (own := "PaperBreadLaw") [(8, 78), (1, 17), (8, 81), (8, 79), (8, 80)] rfl rfl rfl sn_mMo_whose
theorem nd12_106 : mP 12 (106, .inr (.inl (false, mPb_depth, 1))) := mP_of (own := "PaperBreadLaw") [(4, 231), (1, 1), (4, 234), (4, 232), (4, 233)] rfl rfl rfl sn_mPb_depth
theorem nd12_109 : mP 12 (109, .inr (.inl (false, mMo_depth, 1))) := mP_of (own := "PaperBreadLaw") [(8, 57), (1, 17), (8, 60), (8, 58), (8, 59)] rfl rfl rfl sn_mMo_depth
theorem nd12_110 : mP 12 (110, .inr (.inl (false, mPb_between, 2))) := mP_of (own := "PaperBreadLaw") [(4, 239), (1, 1), (5, 2), (5, 0), (5, 1)] rfl rfl rfl sn_mPb_between
theorem nd12_113 : mP 12 (113, .inr (.inl (false, mMo_between, 2))) := mP_of (own := "PaperBreadLaw") [(8, 123), (1, 17), (8, 126), (8, 124), (8, 125)] rfl rfl rfl sn_mMo_between
theorem nd12_114 : mP 12 (114, .inr (.inl (false, mPb_gets, 3))) := mP_of (own := "PaperBreadLaw") [(5, 12), (1, 1), (5, 15), (5, 13), (5, 14)] rfl rfl rfl sn_mPb_gets
theorem nd12_117 : mP 12 (117, .inr (.inl (false, mMo_gets, 3))) := mP_of (own := "PaperBreadLaw") [(8, 91), (1, 17), (8, 94), (8, 92), (8, 93)] rfl rfl rfl sn_mMo_gets
theorem nd12_118 : mP 12 (118, .inr (.inl (false, mPb_shame, 2))) := mP_of (own := "PaperBreadLaw") [(5, 20), (1, 1), (5, 23), (5, 21), (5, 22)] rfl rfl rfl sn_mPb_shame
theorem nd12_122 : mP 12 (122, .inr (.inl (false, mMo_shame, 2))) := mP_of (own := "PaperBreadLaw") [(8, 99), (1, 17), (8, 102), (8, 100), (8, 101)] rfl rfl rfl sn_mMo_shame
theorem nd12_123 : mP 12 (123, .inr (.inl (false, mPb_mean, 3))) := mP_of (own := "PaperBreadLaw") [(5, 34), (1, 1), (5, 37), (5, 35), (5, 36)] rfl rfl rfl sn_mPb_mean
theorem nd12_126 : mP 12 (126, .inr (.inl (false, mMo_mean, 3))) := mP_of (own := "PaperBreadLaw") [(8, 111), (1, 17), (8, 114), (8, 112), (8, 113)] rfl rfl rfl sn_mMo_mean
theorem nd12_127 : mP 12 (127, .inr (.inl (false, mPb_net, 1))) := mP_of (own := "PaperBreadLaw") [(5, 47), (1, 1), (5, 50), (5, 48), (5, 49)] rfl rfl rfl sn_mPb_net
theorem nd12_130 : mP 12 (130, .inr (.inl (false, mMo_net, 1))) := mP_of (own := "PaperBreadLaw") [(8, 131), (1, 17), (8, 134), (8, 132), (8, 133)] rfl rfl rfl sn_mMo_net
theorem nd12_131 : mP 12 (131, .inr (.inl (false, mPb_handOvers, 0))) := mP_of (own := "PaperBreadLaw") [(5, 55), (1, 1), (5, 58), (5, 56), (5, 57)] rfl rfl rfl sn_mPb_handOvers
theorem nd12_134 : mP 12 (134, .inr (.inl (false, mMo_handOvers, 0))) := mP_of (own := "PaperBreadLaw") [(8, 139), (1, 17), (8, 142), (8, 140), (8, 141)] rfl rfl rfl sn_mMo_handOvers
theorem nd12_135 : mP 12 (135, .inr (.inl (false, mPb_ring, 0))) := mP_of (own := "PaperBreadLaw") [(5, 65), (1, 1), (5, 68), (5, 66), (5, 67)] rfl rfl rfl sn_mPb_ring
theorem nd12_138 : mP 12 (138, .inr (.inl (false, mMo_ring, 0))) := mP_of (own := "PaperBreadLaw") [(8, 146), (1, 17), (8, 149), (8, 147), (8, 148)] rfl rfl rfl sn_mMo_ring
theorem nd12_139 : mP 12 (139, .inr (.inl (false, mPb_ringAt, 1))) := mP_of (own := "PaperBreadLaw") [(5, 87), (1, 1), (5, 90), (5, 88), (5, 89)] rfl rfl rfl sn_mPb_ringAt
theorem nd12_142 : mP 12 (142, .inr (.inl (false, mMo_ringAt, 1))) := mP_of (own := "PaperBreadLaw") [(8, 154), (1, 17), (8, 157), (8, 155), (8, 156)] rfl rfl rfl sn_mMo_ringAt
theorem nd12_143 : mP 12 (143, .inr (.inl (false, mPb_owing, 1))) := mP_of (own := "PaperBreadLaw") [(5, 91), (1, 1), (5, 94), (5, 92), (5, 93)] rfl rfl rfl sn_mPb_owing
theorem nd12_146 : mP 12 (146, .inr (.inl (false, mMo_owing, 1))) := mP_of (own := "PaperBreadLaw") [(8, 127), (1, 17), (8, 130), (8, 128), (8, 129)] rfl rfl rfl sn_mMo_owing
theorem nd12_147 : mP 12 (147, .inr (.inl (false, mPb_saved, 3))) := mP_of (own := "PaperBreadLaw") [(5, 95), (1, 1), (5, 98), (5, 96), (5, 97)] rfl rfl rfl sn_mPb_saved
theorem nd12_150 : mP 12 (150, .inr (.inl (false, mMo_saved, 3))) := mP_of (own := "PaperBreadLaw") [(8, 158), (1, 17), (8, 161), (8, 159), (8, 160)] rfl rfl rfl sn_mMo_saved
theorem nd12_151 : mP 12 (151, .inr (.inl (false, mPb_faces, 0))) := mP_of (own := "PaperBreadLaw") [(5, 118), (1, 1), (5, 121), (5, 119), (5, 120)] rfl rfl rfl sn_mPb_faces
theorem nd12_154 : mP 12 (154, .inr (.inl (false, mMo_faces, 0))) := mP_of (own := "PaperBreadLaw") [(8, 167), (1, 17), (8, 170), (8, 168), (8, 169)] rfl rfl rfl sn_mMo_faces
theorem nd12_155 : mP 12 (155, .inr (.inl (false, mPb_keeps, 3))) := mP_of (own := "PaperBreadLaw") [(5, 126), (1, 1), (5, 129), (5, 127), (5, 128)] rfl rfl rfl sn_mPb_keeps
theorem nd12_158 : mP 12 (158, .inr (.inl (false, mMo_keeps, 3))) := mP_of (own := "PaperBreadLaw") [(8, 175), (1, 17), (8, 178), (8, 176), (8, 177)] rfl rfl rfl sn_mMo_keeps
theorem nd12_159 : mP 12 (159, .inr (.inl (false, mPb_burst, 0))) := mP_of (own := "PaperBreadLaw") [(5, 141), (1, 1), (5, 144), (5, 142), (5, 143)] rfl rfl rfl sn_mPb_burst
theorem nd12_162 : mP 12 (162, .inr (.inl (false, mMo_burst, 0))) := mP_of (own := "PaperBreadLaw") [(8, 189), (1, 17), (8, 192), (8, 190), (8, 191)] rfl rfl rfl sn_mMo_burst
theorem nd12_163 : mP 12 (163, .inr (.inl (false, mPb_cuts, 5))) := mP_of (own := "PaperBreadLaw") [(5, 145), (1, 1), (5, 148), (5, 146), (5, 147)] rfl rfl rfl sn_mPb_cuts
theorem nd12_166 : mP 12 (166, .inr (.inl (false, mMo_cuts, 5))) := mP_of (own := "PaperBreadLaw") [(8, 193), (1, 17), (8, 196), (8, 194), (8, 195)] rfl rfl rfl sn_mMo_cuts
theorem nd12_167 : mP 12 (167, .inr (.inl (false, mPb_auction, 3))) := mP_of (own := "PaperBreadLaw") [(5, 153), (1, 1), (5, 156), (5, 154), (5, 155)] rfl rfl rfl sn_mPb_auction
theorem nd12_170 : mP 12 (170, .inr (.inl (false, mMo_auction, 3))) := mP_of (own := "PaperBreadLaw") [(8, 200), (1, 17), (8, 203), (8, 201), (8, 202)] rfl rfl rfl sn_mMo_auction
theorem nd12_171 : mP 12 (171, .inr (.inl (false, mPb_make, 5))) := mP_of (own := "PaperBreadLaw") [(5, 162), (1, 1), (5, 165), (5, 163), (5, 164)] rfl rfl rfl sn_mPb_make
theorem nd12_174 : mP 12 (174, .inr (.inl (false, mMo_make, 5))) := mP_of (own := "PaperBreadLaw") [(8, 208), (1, 17), (8, 211), (8, 209), (8, 210)] rfl rfl rfl sn_mMo_make
theorem nd12_175 : mP 12 (175, .inr (.inl (false, mPb_letGo, 1))) := mP_of (own := "PaperBreadLaw") [(5, 168), (1, 1), (5, 171), (5, 169), (5, 170)] rfl rfl rfl sn_mPb_letGo
theorem nd12_179 : mP 12 (179, .inr (.inl (false, mMo_letGo, 1))) := mP_of (own := "PaperBreadLaw") [(8, 217), (1, 17), (8, 220), (8, 218), (8, 219)] rfl rfl rfl sn_mMo_letGo
theorem nd12_180 : mP 12 (180, .inr (.inl (false, mPb_bake, 1))) := mP_of (own := "PaperBreadLaw") [(5, 178), (1, 1), (5, 181), (5, 179), (5, 180)] rfl rfl rfl sn_mPb_bake
theorem nd12_183 : mP 12 (183, .inr (.inl (false, mMo_bake, 1))) := mP_of (own := "PaperBreadLaw") [(8, 225), (1, 17), (8, 228), (8, 226), (8, 227)] rfl rfl rfl sn_mMo_bake
theorem nd12_184 : mP 12 (184, .inr (.inl (false, mPb_pass, 1))) := mP_of (own := "PaperBreadLaw") [(5, 201), (1, 1), (5, 204), (5, 202), (5, 203)] rfl rfl rfl sn_mPb_pass
theorem nd12_187 : mP 12 (187, .inr (.inl (false, mMo_pass, 1))) := mP_of (own := "PaperBreadLaw") [(8, 237), (1, 17), (9, 0), (8, 238), (8, 239)] rfl rfl rfl sn_mMo_pass
theorem nd12_188 : mP 12 (188, .inr (.inl (false, mPb_eat, 2))) := mP_of (own := "PaperBreadLaw") [(5, 205), (1, 1), (5, 208), (5, 206), (5, 207)] rfl rfl rfl sn_mPb_eat
theorem nd12_191 : mP 12 (191, .inr (.inl (false, mMo_eat, 2))) := mP_of (own := "PaperBreadLaw") [(9, 2), (1, 17), (9, 5), (9, 3), (9, 4)] rfl rfl rfl sn_mMo_eat
theorem nd12_192 : mP 12 (192, .inr (.inl (false, mPb_pay, 3))) := mP_of (own := "PaperBreadLaw") [(5, 214), (1, 1), (5, 217), (5, 215), (5, 216)] rfl rfl rfl sn_mPb_pay
theorem nd12_195 : mP 12 (195, .inr (.inl (false, mMo_pay, 3))) := mP_of (own := "PaperBreadLaw") [(9, 10), (1, 17), (9, 13), (9, 11), (9, 12)] rfl rfl rfl sn_mMo_pay
theorem nd12_196 : mP 12 (196, .inr (.inl (false, mPb_live, 1))) := mP_of (own := "PaperBreadLaw") [(5, 222), (1, 1), (5, 225), (5, 223), (5, 224)] rfl rfl rfl sn_mPb_live
theorem nd12_199 : mP 12 (199, .inr (.inl (false, mMo_live, 1))) := mP_of (own := "PaperBreadLaw") [(9, 18), (1, 17), (9, 21), (9, 19), (9, 20)] rfl rfl rfl sn_mMo_live
theorem nd12_200 : mP 12 (200, .inr (.inl (false, mPb_lived, 1))) := mP_of (own := "PaperBreadLaw") [(6, 37), (1, 1), (6, 40), (6, 38), (6, 39)] rfl rfl rfl sn_mPb_lived
theorem nd12_203 : mP 12 (203, .inr (.inl (false, mMo_lived, 1))) := mP_of (own := "PaperBreadLaw") [(9, 51), (1, 17), (9, 54), (9, 52), (9, 53)] rfl rfl rfl sn_mMo_lived
theorem nd12_204 : mP 12 (204, .inr (.inl (false, mPb_odds, 4))) := mP_of (own := "PaperBreadLaw") [(6, 41), (1, 1), (6, 44), (6, 42), (6, 43)] rfl rfl rfl sn_mPb_odds
theorem nd12_208 : mP 12 (208, .inr (.inl (false, mMo_odds, 4))) := mP_of (own := "PaperBreadLaw") [(9, 56), (1, 17), (9, 59), (9, 57), (9, 58)] rfl rfl rfl sn_mMo_odds
theorem nd12_209 : mP 12 (209, .inr (.inl (false, mPb_mark, 0))) := mP_of (own := "PaperBreadLaw") [(6, 45), (1, 1), (6, 48), (6, 46), (6, 47)] rfl rfl rfl sn_mPb_mark
theorem nd12_212 : mP 12 (212, .inr (.inl (false, mMo_mark, 0))) := mP_of (own := "PaperBreadLaw") [(9, 61), (1, 17), (9, 64), (9, 62), (9, 63)] rfl rfl rfl sn_mMo_mark
theorem nd12_213 : mP 12 (213, .inr (.inl (false, mPb_back, 0))) := mP_of (own := "PaperBreadLaw") [(6, 49), (1, 1), (6, 52), (6, 50), (6, 51)] rfl rfl rfl sn_mPb_back
theorem nd12_216 : mP 12 (216, .inr (.inl (false, mMo_back, 0))) := mP_of (own := "PaperBreadLaw") [(9, 65), (1, 17), (9, 68), (9, 66), (9, 67)] rfl rfl rfl sn_mMo_back
theorem nd12 : ∀ q ∈ mRL12, mP 12 q := List.forall_mem_cons.mpr ⟨nd12_13, List.forall_mem_cons.mpr ⟨nd12_17, List.forall_mem_cons.mpr ⟨nd12_18, List.forall_mem_cons.mpr ⟨nd12_22, List.forall_mem_cons.mpr ⟨nd12_23, List.forall_mem_cons.mpr ⟨nd12_26, List.forall_mem_cons.mpr ⟨nd12_27, List.forall_mem_cons.mpr ⟨nd12_31, List.forall_mem_cons.mpr ⟨nd12_32, List.forall_mem_cons.mpr ⟨nd12_34, List.forall_mem_cons.mpr ⟨nd12_38, List.forall_mem_cons.mpr ⟨nd12_39, List.forall_mem_cons.mpr ⟨nd12_43, List.forall_mem_cons.mpr ⟨nd12_44, List.forall_mem_cons.mpr ⟨nd12_48, List.forall_mem_cons.mpr ⟨nd12_49, List.forall_mem_cons.mpr ⟨nd12_53, List.forall_mem_cons.mpr ⟨nd12_54, List.forall_mem_cons.mpr ⟨nd12_58, List.forall_mem_cons.mpr ⟨nd12_59, List.forall_mem_cons.mpr ⟨nd12_62, List.forall_mem_cons.mpr ⟨nd12_63, List.forall_mem_cons.mpr ⟨nd12_66, List.forall_mem_cons.mpr ⟨nd12_67, List.forall_mem_cons.mpr ⟨nd12_70, List.forall_mem_cons.mpr ⟨nd12_71, List.forall_mem_cons.mpr ⟨nd12_75, List.forall_mem_cons.mpr ⟨nd12_76, List.forall_mem_cons.mpr ⟨nd12_79, List.forall_mem_cons.mpr ⟨nd12_80, List.forall_mem_cons.mpr ⟨nd12_83, List.forall_mem_cons.mpr ⟨nd12_84, List.forall_mem_cons.mpr ⟨nd12_87, List.forall_mem_cons.mpr ⟨nd12_88, List.forall_mem_cons.mpr ⟨nd12_91, List.forall_mem_cons.mpr ⟨nd12_92, List.forall_mem_cons.mpr ⟨nd12_96, List.forall_mem_cons.mpr ⟨nd12_97, List.forall_mem_cons.mpr ⟨nd12_100, List.forall_mem_cons.mpr ⟨nd12_101, List.forall_mem_cons.mpr ⟨nd12_105, List.forall_mem_cons.mpr ⟨nd12_106, List.forall_mem_cons.mpr ⟨nd12_109, List.forall_mem_cons.mpr ⟨nd12_110, List.forall_mem_cons.mpr ⟨nd12_113, List.forall_mem_cons.mpr ⟨nd12_114, List.forall_mem_cons.mpr ⟨nd12_117, List.forall_mem_cons.mpr ⟨nd12_118, List.forall_mem_cons.mpr ⟨nd12_122, List.forall_mem_cons.mpr ⟨nd12_123, List.forall_mem_cons.mpr ⟨nd12_126, List.forall_mem_cons.mpr ⟨nd12_127, List.forall_mem_cons.mpr ⟨nd12_130, List.forall_mem_cons.mpr ⟨nd12_131, List.forall_mem_cons.mpr ⟨nd12_134, List.forall_mem_cons.mpr ⟨nd12_135, List.forall_mem_cons.mpr ⟨nd12_138, List.forall_mem_cons.mpr ⟨nd12_139, List.forall_mem_cons.mpr ⟨nd12_142, List.forall_mem_cons.mpr ⟨nd12_143, List.forall_mem_cons.mpr ⟨nd12_146, List.forall_mem_cons.mpr ⟨nd12_147, List.forall_mem_cons.mpr ⟨nd12_150, List.forall_mem_cons.mpr ⟨nd12_151, List.forall_mem_cons.mpr ⟨nd12_154, List.forall_mem_cons.mpr ⟨nd12_155, List.forall_mem_cons.mpr ⟨nd12_158, List.forall_mem_cons.mpr ⟨nd12_159, List.forall_mem_cons.mpr ⟨nd12_162, List.forall_mem_cons.mpr ⟨nd12_163, List.forall_mem_cons.mpr ⟨nd12_166, List.forall_mem_cons.mpr ⟨nd12_167, List.forall_mem_cons.mpr ⟨nd12_170, List.forall_mem_cons.mpr ⟨nd12_171, List.forall_mem_cons.mpr ⟨nd12_174, List.forall_mem_cons.mpr ⟨nd12_175, List.forall_mem_cons.mpr ⟨nd12_179, List.forall_mem_cons.mpr ⟨nd12_180, List.forall_mem_cons.mpr ⟨nd12_183, List.forall_mem_cons.mpr ⟨nd12_184, List.forall_mem_cons.mpr ⟨nd12_187, List.forall_mem_cons.mpr ⟨nd12_188, List.forall_mem_cons.mpr ⟨nd12_191, List.forall_mem_cons.mpr ⟨nd12_192, List.forall_mem_cons.mpr ⟨nd12_195, List.forall_mem_cons.mpr ⟨nd12_196, List.forall_mem_cons.mpr ⟨nd12_199, List.forall_mem_cons.mpr ⟨nd12_200, List.forall_mem_cons.mpr ⟨nd12_203, List.forall_mem_cons.mpr ⟨nd12_204, List.forall_mem_cons.mpr ⟨nd12_208, List.forall_mem_cons.mpr ⟨nd12_209, List.forall_mem_cons.mpr ⟨nd12_212, List.forall_mem_cons.mpr ⟨nd12_213, List.forall_mem_cons.mpr ⟨nd12_216, fun _ h => absurd h List.not_mem_nil⟩⟩⟩⟩⟩⟩⟩⟩⟩⟩⟩⟩⟩⟩⟩⟩⟩⟩⟩⟩⟩⟩⟩⟩⟩⟩⟩⟩⟩⟩⟩⟩⟩⟩⟩⟩⟩⟩⟩⟩⟩⟩⟩⟩⟩⟩⟩⟩⟩⟩⟩⟩⟩⟩⟩⟩⟩⟩⟩⟩⟩⟩⟩⟩⟩⟩⟩⟩⟩⟩⟩⟩⟩⟩⟩⟩⟩⟩⟩⟩⟩⟩⟩⟩⟩⟩⟩⟩⟩⟩⟩⟩⟩⟩⟩
theorem nd13 : ∀ q ∈ mRL13, mP 13 q := fun _ h => absurd h List.not_mem_nil
theorem nd14 : ∀ q ∈ mRL14, mP 14 q := fun _ h => absurd h List.not_mem_nil
theorem mRz_ok {c idx : Nat} {z : mZ} (h : mRz c idx = some z) : mP c (idx, z) := by
  unfold mRz at h
  have hm : (idx, z) ∈ mRLs.getD c [] := mLookup_mem h
  match c, hm with
  | 0, hm => exact nd0 _ hm
  | 1, hm => exact nd1 _ hm
  | 2, hm => exact nd2 _ hm
  | 3, hm => exact nd3 _ hm
  | 4, hm => exact nd4 _ hm
  | 5, hm => exact nd5 _ hm
  | 6, hm => exact nd6 _ hm
  | 7, hm => exact nd7 _ hm
  | 8, hm => exact nd8 _ hm
  | 9, hm => exact nd9 _ hm
  | 10, hm => exact nd10 _ hm
  | 11, hm => exact nd11 _ hm
  | 12, hm => exact nd12 _ hm
  | 13, hm => exact nd13 _ hm
  | 14, hm => exact nd14 _ hm
  | _ + 15, hm => exact absurd hm List.not_mem_nil
